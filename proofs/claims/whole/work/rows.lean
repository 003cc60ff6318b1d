section
-- ===== PART A: goes FIRST, ahead of the names: the tables' words, and 'selects' of the private methods out of them =====
/-- a private method of a class that the tables say can be made, by its rows of tables_1 -/
def lw_okq (q : MethodName × Nat) : Prop := (q.1.cls ≠ "java/lang/invoke/MethodHandle" ∧ q.1.cls ≠ "java/lang/invoke/VarHandle") ∧ Cond.instantiable q.1.cls q.2 ∈ tables_1 ∧ Cond.privateMethod q.1 ∈ tables_1 ∧ Cond.instanceMethod q.1 ∈ tables_1
theorem lw_p0 : lw_okq (⟨"GloveCutters", "tallySkin", "(II)I"⟩, 16) := ⟨⟨by decide +kernel, by decide +kernel⟩, List.mem_of_getElem? (i := 13) (by decide +kernel), List.mem_of_getElem? (i := 78) (by decide +kernel), List.mem_of_getElem? (i := 79) (by decide +kernel)⟩
theorem lw_p1 : lw_okq (⟨"GloveCutters", "tellCount", "(I)I"⟩, 16) := ⟨⟨by decide +kernel, by decide +kernel⟩, List.mem_of_getElem? (i := 13) (by decide +kernel), List.mem_of_getElem? (i := 91) (by decide +kernel), List.mem_of_getElem? (i := 92) (by decide +kernel)⟩
theorem lw_p2 : lw_okq (⟨"GloveCutters", "piecesAt", "(I)I"⟩, 16) := ⟨⟨by decide +kernel, by decide +kernel⟩, List.mem_of_getElem? (i := 13) (by decide +kernel), List.mem_of_getElem? (i := 95) (by decide +kernel), List.mem_of_getElem? (i := 96) (by decide +kernel)⟩
theorem lw_p3 : lw_okq (⟨"GloveCutters", "pairsInUse", "()I"⟩, 16) := ⟨⟨by decide +kernel, by decide +kernel⟩, List.mem_of_getElem? (i := 13) (by decide +kernel), List.mem_of_getElem? (i := 99) (by decide +kernel), List.mem_of_getElem? (i := 100) (by decide +kernel)⟩
theorem lw_p4 : lw_okq (⟨"GloveCutters", "digestSkin", "(JI)J"⟩, 16) := ⟨⟨by decide +kernel, by decide +kernel⟩, List.mem_of_getElem? (i := 13) (by decide +kernel), List.mem_of_getElem? (i := 103) (by decide +kernel), List.mem_of_getElem? (i := 104) (by decide +kernel)⟩
theorem lw_p5 : lw_okq (⟨"GloveCutters", "tellSkin", "(II)I"⟩, 16) := ⟨⟨by decide +kernel, by decide +kernel⟩, List.mem_of_getElem? (i := 13) (by decide +kernel), List.mem_of_getElem? (i := 107) (by decide +kernel), List.mem_of_getElem? (i := 108) (by decide +kernel)⟩
theorem lw_p6 : lw_okq (⟨"GloveCutters", "tellPiece", "(II)I"⟩, 16) := ⟨⟨by decide +kernel, by decide +kernel⟩, List.mem_of_getElem? (i := 13) (by decide +kernel), List.mem_of_getElem? (i := 111) (by decide +kernel), List.mem_of_getElem? (i := 112) (by decide +kernel)⟩
theorem lw_p7 : lw_okq (⟨"GloveCutters", "tellPair", "(II)I"⟩, 16) := ⟨⟨by decide +kernel, by decide +kernel⟩, List.mem_of_getElem? (i := 13) (by decide +kernel), List.mem_of_getElem? (i := 115) (by decide +kernel), List.mem_of_getElem? (i := 116) (by decide +kernel)⟩
theorem lw_p8 : lw_okq (⟨"java/lang/Throwable", "fillInStackTrace", "(I)Ljava/lang/Throwable;"⟩, 6) := ⟨⟨by decide +kernel, by decide +kernel⟩, List.mem_of_getElem? (i := 169) (by decide +kernel), List.mem_of_getElem? (i := 167) (by decide +kernel), List.mem_of_getElem? (i := 168) (by decide +kernel)⟩
theorem lw_p9 : lw_okq (⟨"GloveCutters", "needSkin", "(I)V"⟩, 16) := ⟨⟨by decide +kernel, by decide +kernel⟩, List.mem_of_getElem? (i := 13) (by decide +kernel), List.mem_of_getElem? (i := 223) (by decide +kernel), List.mem_of_getElem? (i := 224) (by decide +kernel)⟩
theorem lw_p10 : lw_okq (⟨"GloveCutters", "lacking", "(II)I"⟩, 16) := ⟨⟨by decide +kernel, by decide +kernel⟩, List.mem_of_getElem? (i := 13) (by decide +kernel), List.mem_of_getElem? (i := 324) (by decide +kernel), List.mem_of_getElem? (i := 325) (by decide +kernel)⟩
theorem lw_p11 : lw_okq (⟨"GloveCutters", "mostTranksOfOneSkin", "(I)I"⟩, 16) := ⟨⟨by decide +kernel, by decide +kernel⟩, List.mem_of_getElem? (i := 13) (by decide +kernel), List.mem_of_getElem? (i := 328) (by decide +kernel), List.mem_of_getElem? (i := 329) (by decide +kernel)⟩
theorem lw_p12 : lw_okq (⟨"GloveCutters", "freeTranks", "(I)I"⟩, 16) := ⟨⟨by decide +kernel, by decide +kernel⟩, List.mem_of_getElem? (i := 13) (by decide +kernel), List.mem_of_getElem? (i := 332) (by decide +kernel), List.mem_of_getElem? (i := 333) (by decide +kernel)⟩
theorem lw_p13 : lw_okq (⟨"GloveCutters", "freeOfColour", "(II)I"⟩, 16) := ⟨⟨by decide +kernel, by decide +kernel⟩, List.mem_of_getElem? (i := 13) (by decide +kernel), List.mem_of_getElem? (i := 339) (by decide +kernel), List.mem_of_getElem? (i := 340) (by decide +kernel)⟩
theorem lw_p14 : lw_okq (⟨"GloveCutters", "isFreeOfColour", "(III)Z"⟩, 16) := ⟨⟨by decide +kernel, by decide +kernel⟩, List.mem_of_getElem? (i := 13) (by decide +kernel), List.mem_of_getElem? (i := 343) (by decide +kernel), List.mem_of_getElem? (i := 344) (by decide +kernel)⟩
theorem lw_p15 : lw_okq (⟨"GloveCutters", "enterPair", "(I)V"⟩, 16) := ⟨⟨by decide +kernel, by decide +kernel⟩, List.mem_of_getElem? (i := 13) (by decide +kernel), List.mem_of_getElem? (i := 351) (by decide +kernel), List.mem_of_getElem? (i := 352) (by decide +kernel)⟩
def lw_privs_1 : List (MethodName × Nat) := [(⟨"GloveCutters", "tallySkin", "(II)I"⟩, 16), (⟨"GloveCutters", "tellCount", "(I)I"⟩, 16), (⟨"GloveCutters", "piecesAt", "(I)I"⟩, 16), (⟨"GloveCutters", "pairsInUse", "()I"⟩, 16), (⟨"GloveCutters", "digestSkin", "(JI)J"⟩, 16), (⟨"GloveCutters", "tellSkin", "(II)I"⟩, 16), (⟨"GloveCutters", "tellPiece", "(II)I"⟩, 16), (⟨"GloveCutters", "tellPair", "(II)I"⟩, 16), (⟨"java/lang/Throwable", "fillInStackTrace", "(I)Ljava/lang/Throwable;"⟩, 6), (⟨"GloveCutters", "needSkin", "(I)V"⟩, 16), (⟨"GloveCutters", "lacking", "(II)I"⟩, 16), (⟨"GloveCutters", "mostTranksOfOneSkin", "(I)I"⟩, 16), (⟨"GloveCutters", "freeTranks", "(I)I"⟩, 16), (⟨"GloveCutters", "freeOfColour", "(II)I"⟩, 16), (⟨"GloveCutters", "isFreeOfColour", "(III)Z"⟩, 16), (⟨"GloveCutters", "enterPair", "(I)V"⟩, 16)]
theorem lw_r1 : ∀ q ∈ lw_privs_1, lw_okq q := List.forall_mem_cons.mpr ⟨lw_p0, List.forall_mem_cons.mpr ⟨lw_p1, List.forall_mem_cons.mpr ⟨lw_p2, List.forall_mem_cons.mpr ⟨lw_p3, List.forall_mem_cons.mpr ⟨lw_p4, List.forall_mem_cons.mpr ⟨lw_p5, List.forall_mem_cons.mpr ⟨lw_p6, List.forall_mem_cons.mpr ⟨lw_p7, List.forall_mem_cons.mpr ⟨lw_p8, List.forall_mem_cons.mpr ⟨lw_p9, List.forall_mem_cons.mpr ⟨lw_p10, List.forall_mem_cons.mpr ⟨lw_p11, List.forall_mem_cons.mpr ⟨lw_p12, List.forall_mem_cons.mpr ⟨lw_p13, List.forall_mem_cons.mpr ⟨lw_p14, List.forall_mem_cons.mpr ⟨lw_p15, fun _ h => absurd h List.not_mem_nil⟩⟩⟩⟩⟩⟩⟩⟩⟩⟩⟩⟩⟩⟩⟩⟩
theorem lw_p16 : lw_okq (⟨"GloveCutters", "firstSkinWithTranks", "(I)I"⟩, 16) := ⟨⟨by decide +kernel, by decide +kernel⟩, List.mem_of_getElem? (i := 13) (by decide +kernel), List.mem_of_getElem? (i := 355) (by decide +kernel), List.mem_of_getElem? (i := 356) (by decide +kernel)⟩
theorem lw_p17 : lw_okq (⟨"GloveCutters", "needPair", "(I)V"⟩, 16) := ⟨⟨by decide +kernel, by decide +kernel⟩, List.mem_of_getElem? (i := 13) (by decide +kernel), List.mem_of_getElem? (i := 372) (by decide +kernel), List.mem_of_getElem? (i := 373) (by decide +kernel)⟩
theorem lw_p18 : lw_okq (⟨"GloveCutters", "givenBy", "(IIZ)I"⟩, 16) := ⟨⟨by decide +kernel, by decide +kernel⟩, List.mem_of_getElem? (i := 13) (by decide +kernel), List.mem_of_getElem? (i := 399) (by decide +kernel), List.mem_of_getElem? (i := 400) (by decide +kernel)⟩
theorem lw_p19 : lw_okq (⟨"GloveCutters", "trankPairs", "(I)I"⟩, 16) := ⟨⟨by decide +kernel, by decide +kernel⟩, List.mem_of_getElem? (i := 13) (by decide +kernel), List.mem_of_getElem? (i := 427) (by decide +kernel), List.mem_of_getElem? (i := 428) (by decide +kernel)⟩
theorem lw_p20 : lw_okq (⟨"GloveCuttersModel", "no", "(I)I"⟩, 12) := ⟨⟨by decide +kernel, by decide +kernel⟩, List.mem_of_getElem? (i := 437) (by decide +kernel), List.mem_of_getElem? (i := 494) (by decide +kernel), List.mem_of_getElem? (i := 495) (by decide +kernel)⟩
theorem lw_p21 : lw_okq (⟨"GloveCuttersModel", "isCell", "(III)Z"⟩, 12) := ⟨⟨by decide +kernel, by decide +kernel⟩, List.mem_of_getElem? (i := 437) (by decide +kernel), List.mem_of_getElem? (i := 502) (by decide +kernel), List.mem_of_getElem? (i := 503) (by decide +kernel)⟩
theorem lw_p22 : lw_okq (⟨"GloveCuttersModel", "isSkin", "(I)Z"⟩, 12) := ⟨⟨by decide +kernel, by decide +kernel⟩, List.mem_of_getElem? (i := 437) (by decide +kernel), List.mem_of_getElem? (i := 506) (by decide +kernel), List.mem_of_getElem? (i := 507) (by decide +kernel)⟩
theorem lw_p23 : lw_okq (⟨"GloveCuttersModel", "skinTold", "(II)I"⟩, 12) := ⟨⟨by decide +kernel, by decide +kernel⟩, List.mem_of_getElem? (i := 437) (by decide +kernel), List.mem_of_getElem? (i := 524) (by decide +kernel), List.mem_of_getElem? (i := 525) (by decide +kernel)⟩
theorem lw_p24 : lw_okq (⟨"GloveCuttersModel", "piecesOf", "(I)I"⟩, 12) := ⟨⟨by decide +kernel, by decide +kernel⟩, List.mem_of_getElem? (i := 437) (by decide +kernel), List.mem_of_getElem? (i := 528) (by decide +kernel), List.mem_of_getElem? (i := 529) (by decide +kernel)⟩
theorem lw_p25 : lw_okq (⟨"GloveCuttersModel", "pieceTold", "(II)I"⟩, 12) := ⟨⟨by decide +kernel, by decide +kernel⟩, List.mem_of_getElem? (i := 437) (by decide +kernel), List.mem_of_getElem? (i := 563) (by decide +kernel), List.mem_of_getElem? (i := 564) (by decide +kernel)⟩
theorem lw_p26 : lw_okq (⟨"GloveCuttersModel", "canSew", "(I)Z"⟩, 12) := ⟨⟨by decide +kernel, by decide +kernel⟩, List.mem_of_getElem? (i := 437) (by decide +kernel), List.mem_of_getElem? (i := 571) (by decide +kernel), List.mem_of_getElem? (i := 572) (by decide +kernel)⟩
theorem lw_p27 : lw_okq (⟨"GloveCuttersModel", "trankSkin", "(I)I"⟩, 12) := ⟨⟨by decide +kernel, by decide +kernel⟩, List.mem_of_getElem? (i := 437) (by decide +kernel), List.mem_of_getElem? (i := 575) (by decide +kernel), List.mem_of_getElem? (i := 576) (by decide +kernel)⟩
theorem lw_p28 : lw_okq (⟨"GloveCuttersModel", "tranks", "(I)I"⟩, 12) := ⟨⟨by decide +kernel, by decide +kernel⟩, List.mem_of_getElem? (i := 437) (by decide +kernel), List.mem_of_getElem? (i := 579) (by decide +kernel), List.mem_of_getElem? (i := 580) (by decide +kernel)⟩
theorem lw_p29 : lw_okq (⟨"GloveCuttersModel", "isFree", "(III)Z"⟩, 12) := ⟨⟨by decide +kernel, by decide +kernel⟩, List.mem_of_getElem? (i := 437) (by decide +kernel), List.mem_of_getElem? (i := 583) (by decide +kernel), List.mem_of_getElem? (i := 584) (by decide +kernel)⟩
theorem lw_p30 : lw_okq (⟨"GloveCuttersModel", "free", "(II)I"⟩, 12) := ⟨⟨by decide +kernel, by decide +kernel⟩, List.mem_of_getElem? (i := 437) (by decide +kernel), List.mem_of_getElem? (i := 587) (by decide +kernel), List.mem_of_getElem? (i := 588) (by decide +kernel)⟩
theorem lw_p31 : lw_okq (⟨"GloveCuttersModel", "take", "(III)V"⟩, 12) := ⟨⟨by decide +kernel, by decide +kernel⟩, List.mem_of_getElem? (i := 437) (by decide +kernel), List.mem_of_getElem? (i := 593) (by decide +kernel), List.mem_of_getElem? (i := 594) (by decide +kernel)⟩
def lw_privs_2 : List (MethodName × Nat) := [(⟨"GloveCutters", "firstSkinWithTranks", "(I)I"⟩, 16), (⟨"GloveCutters", "needPair", "(I)V"⟩, 16), (⟨"GloveCutters", "givenBy", "(IIZ)I"⟩, 16), (⟨"GloveCutters", "trankPairs", "(I)I"⟩, 16), (⟨"GloveCuttersModel", "no", "(I)I"⟩, 12), (⟨"GloveCuttersModel", "isCell", "(III)Z"⟩, 12), (⟨"GloveCuttersModel", "isSkin", "(I)Z"⟩, 12), (⟨"GloveCuttersModel", "skinTold", "(II)I"⟩, 12), (⟨"GloveCuttersModel", "piecesOf", "(I)I"⟩, 12), (⟨"GloveCuttersModel", "pieceTold", "(II)I"⟩, 12), (⟨"GloveCuttersModel", "canSew", "(I)Z"⟩, 12), (⟨"GloveCuttersModel", "trankSkin", "(I)I"⟩, 12), (⟨"GloveCuttersModel", "tranks", "(I)I"⟩, 12), (⟨"GloveCuttersModel", "isFree", "(III)Z"⟩, 12), (⟨"GloveCuttersModel", "free", "(II)I"⟩, 12), (⟨"GloveCuttersModel", "take", "(III)V"⟩, 12)]
theorem lw_r2 : ∀ q ∈ lw_privs_2, lw_okq q := List.forall_mem_cons.mpr ⟨lw_p16, List.forall_mem_cons.mpr ⟨lw_p17, List.forall_mem_cons.mpr ⟨lw_p18, List.forall_mem_cons.mpr ⟨lw_p19, List.forall_mem_cons.mpr ⟨lw_p20, List.forall_mem_cons.mpr ⟨lw_p21, List.forall_mem_cons.mpr ⟨lw_p22, List.forall_mem_cons.mpr ⟨lw_p23, List.forall_mem_cons.mpr ⟨lw_p24, List.forall_mem_cons.mpr ⟨lw_p25, List.forall_mem_cons.mpr ⟨lw_p26, List.forall_mem_cons.mpr ⟨lw_p27, List.forall_mem_cons.mpr ⟨lw_p28, List.forall_mem_cons.mpr ⟨lw_p29, List.forall_mem_cons.mpr ⟨lw_p30, List.forall_mem_cons.mpr ⟨lw_p31, fun _ h => absurd h List.not_mem_nil⟩⟩⟩⟩⟩⟩⟩⟩⟩⟩⟩⟩⟩⟩⟩⟩
theorem lw_p32 : lw_okq (⟨"GloveCuttersModel", "counted", "(I)I"⟩, 12) := ⟨⟨by decide +kernel, by decide +kernel⟩, List.mem_of_getElem? (i := 437) (by decide +kernel), List.mem_of_getElem? (i := 611) (by decide +kernel), List.mem_of_getElem? (i := 612) (by decide +kernel)⟩
theorem lw_p33 : lw_okq (⟨"GloveCuttersModel", "given", "(IIZ)I"⟩, 12) := ⟨⟨by decide +kernel, by decide +kernel⟩, List.mem_of_getElem? (i := 437) (by decide +kernel), List.mem_of_getElem? (i := 619) (by decide +kernel), List.mem_of_getElem? (i := 620) (by decide +kernel)⟩
def lw_privs_3 : List (MethodName × Nat) := [(⟨"GloveCuttersModel", "counted", "(I)I"⟩, 12), (⟨"GloveCuttersModel", "given", "(IIZ)I"⟩, 12)]
theorem lw_r3 : ∀ q ∈ lw_privs_3, lw_okq q := List.forall_mem_cons.mpr ⟨lw_p32, List.forall_mem_cons.mpr ⟨lw_p33, fun _ h => absurd h List.not_mem_nil⟩⟩
def lw_privs : List (MethodName × Nat) := lw_privs_1 ++ (lw_privs_2 ++ (lw_privs_3))
def lw_tbl : List Cond := k2_sels lw_privs ++ tables_1
theorem lw_privs_ok : ∀ q ∈ lw_privs, lw_okq q := by
  show ∀ q ∈ lw_privs_1 ++ (lw_privs_2 ++ (lw_privs_3)), lw_okq q
  exact List.forall_mem_append.mpr ⟨lw_r1, List.forall_mem_append.mpr ⟨lw_r2, lw_r3⟩⟩
/-- the streams that the claim lets the run draw from -/
abbrev lw_cs : List Choice := [Jvm.Choice.named "NaN.bits"]
theorem lw_bits : nanBits ∈ lw_cs := by first | decide | exact List.mem_cons_self | simp [lw_cs, nanBits]
-- ===== end of PART A; then your names; then what follows =====
end
section
/-! ===== BEGIN words of one list among another's, by their places ===== -/
theorem goodIn_r {big : List Cond} (ws : List Cond) (ps : List Nat) (hp : ws = ps.filterMap (fun i => big[i]?)) (h : ws.all goodWord = true) : GoodIn big ws := by
  intro w hw
  have h1 := List.all_eq_true.mp h w hw
  rw [hp] at hw
  obtain ⟨i, -, hi⟩ := List.mem_filterMap.mp hw
  have hm : w ∈ big := by first | exact List.mem_of_getElem? hi | exact List.getElem?_mem hi
  exact ⟨hm, good_of_word h1⟩
theorem goodIn_app {big a b : List Cond} (ha : GoodIn big a) (hb : GoodIn big b) : GoodIn big (a ++ b) := fun w h => (List.mem_append.mp h).elim (ha w) (hb w)
theorem goodIn_ca {big a b : List Cond} {c : Cond} (ha : GoodIn big (c :: a)) (hb : GoodIn big b) : GoodIn big (c :: (a ++ b)) := fun w h => (List.mem_cons.mp h).elim (fun e => ha w (List.mem_cons.mpr (Or.inl e))) (fun h => (List.mem_append.mp h).elim (fun h => ha w (List.mem_cons.mpr (Or.inr h))) (hb w))
theorem goodIn_sub {big ws : List Cond} (hm : ∀ w ∈ ws, w ∈ big) (h : ws.all goodWord = true) : GoodIn big ws := fun w hw => ⟨hm w hw, good_of_word (List.all_eq_true.mp h w hw)⟩
/-! ===== END ===== -/

/-! ===== BEGIN new T[n][m]: the outer array a place, the inner ones among the pooled ===== -/
/-- f, but v at every address of l -/
def vr_up {α : Type} (f : Nat → α) (l : List Nat) (v : α) : Nat → α := fun a => if a ∈ l then v else f a
theorem vr_up_in {α : Type} {f : Nat → α} {l : List Nat} {v : α} {a : Nat} (h : a ∈ l) : vr_up f l v a = v := if_pos h
theorem vr_up_ne {α : Type} {f : Nat → α} {l : List Nat} {v : α} {a : Nat} (h : a ∉ l) : vr_up f l v a = f a := if_neg h
theorem vr_rows {L l : List Nat} {f : Nat → va_E} {e : va_E} (h : ∀ a, a ∈ l → a ∉ L) : va_pl L f ++ l.map (fun a => (a, e)) = va_pl (L ++ l) (vr_up f l e) := by
  unfold va_pl
  rw [List.map_append]
  congr 1
  · apply List.map_congr_left
    intro a ha
    rw [vr_up_ne (fun q => h a q ha)]
  · apply List.map_congr_left
    intro a ha
    rw [vr_up_in ha]
theorem vr_lay {X rows : va_W} {x : Nat × va_E} {pl : va_W} {D : va_G} {cl : List vw_C} {H : Heap} (hP : va_P D cl (((X ++ pl) ++ [x]) ++ rows) H) : va_P D cl ((X ++ [x]) ++ (pl ++ rows)) H := by
  rw [List.append_assoc (X ++ pl)] at hP
  have h := va_P.swap hP
  rw [← List.append_assoc X] at h
  have h2 := va_P.swap h
  rw [List.append_assoc (X ++ [x])] at h2
  exact h2
theorem vr_layD {X rows : va_W} {x : Nat × va_E} {pl : va_W} {A : Nat → Prop} (hD : va_D A (((X ++ pl) ++ [x]) ++ rows)) : va_D A ((X ++ [x]) ++ (pl ++ rows)) := by
  rw [List.append_assoc (X ++ pl)] at hD
  have h := va_D.swap hD
  rw [← List.append_assoc X] at h
  have h2 := va_D.swap h
  rw [List.append_assoc (X ++ [x])] at h2
  exact h2
theorem vr_outer (c : ClassId) (N h0 : Nat) : ∀ i : Nat, Jvm.Free.Multi.outerC c N h0 i = arrV c N (fun j => va_rf (if j < i then some (h0 + 1 + j) else none))
  | 0 => by
    show ({ cls := c, slots := Array.replicate N .null, vm := .none } : Cell) = _
    rw [arrV_new]
    refine congrArg (arrV c N) (funext fun j => ?_)
    simp [va_rf]
  | i + 1 => by
    show (Jvm.Free.Multi.outerC c N h0 i).setSlot i (.ref (h0 + 1 + i)) = _
    rw [vr_outer c N h0 i, arrV_store]
    refine congrArg (arrV c N) (funext fun j => ?_)
    by_cases e : j = i
    · subst e
      simp [updV, va_rf]
    · by_cases h : j < i
      · simp [updV, e, h, Nat.lt_succ_of_lt h]
      · simp [updV, e, h, show ¬ j < i + 1 by omega]
/-- the kit's va_AO, for an array of arrays (named by va_mna below, but not in the kit) -/
def va_AOA (ty : FieldType) (U : State) : Prop := (Cond.arrayOver (.array ty)).before #[] U = true
theorem va_AOA.of {ty : FieldType} {A : Array Value} {U : State} (h : (Cond.arrayOver (.array ty)).before A U = true) : va_AOA ty U := h
theorem va_AOA.use {ty : FieldType} {A : Array Value} {U : State} (h : va_AOA ty U) : (Cond.arrayOver (.array ty)).before A U = true := h
section VGM
variable {p : Program} {l : Launch} {e : Env} {R : Room} {s : State} {m : MethodId} {args : Array Value} {below : List Frame} {meth : Method} {c : Code} {H : Heap} {locs : List Loc} {cells slots : Nat} {Q : State → Prop}
variable {cc : ByteArray} {pc : Nat} {ls : Array Slot} {rest : List Value} {D : va_G} {cl : List vw_C} {A : Nat → Prop} {a : Nat} {tys : List (ClassId × FieldType)} {ws : va_W} {H0 : Heap}
theorem va_mna {X : va_W} {L : List Nat} {f : Nat → va_E} {cc : ByteArray} (hexec : p.tables.exec = Jvm.exec) (hb : c.code = cc) {own : String} {index : Nat} {ty : FieldType} {cy : ClassId} (hown : s.vm.findClass own = some m.cls) (hclink : (Cond.classLink own index ("[" ++ (FieldType.array ty).toString)).before args s = true) (hover : va_AOA ty s) (harr : (Cond.arrayClass ty).before args s = true) (hcy : s.vm.findClass (FieldType.array ty).toString = some cy)
    (hK : va_K D cl tys s) (hP : va_P D cl (X ++ va_pl L f) H) (hD : va_D A (X ++ va_pl L f)) (hS : va_S A H0 H locs) (hA : ∀ q, H0.size ≤ q → A q) {n k : Int32} {N' K' : Nat} {z : vp_A} (hn : ¬ n < 0) (hk : ¬ k < 0) (hN : n.toNatClampNeg = N') (hM : k.toNatClampNeg = K')
    (hb1 : N' * 4 ≤ 536870912) (hb2 : K' * componentBytes ty ≤ 536870912) (hb3 : K' ≤ 536870912) (hdf : fits ty (defaultValue ty) = true) (hdd : (defaultValue ty).isDefault = true) (hcells : cells + (1 + N') ≤ R.cells) (hslots : slots + (N' + N' * K') ≤ R.slots) (hz : ∀ c : ClassId, Jvm.Free.Multi.innerC c K' (defaultValue ty) = vp_cell c z) (hdg : decode cc pc = .ok (.multianewarray index 2, 4))
    (kk : ∀ (q : Nat) (r : Nat → Nat) (cA : ClassId) (H1 : Heap), (∀ i j : Nat, i < N' → j < N' → r i = r j → i = j) → (∀ i : Nat, i < N' → r i ∉ L) → va_K D cl (tys ++ [(cA, .array ty)]) s →
      va_P D cl ((X ++ [(q, .inl (cA, N', .inr (.inr (.inr (.inr (fun i => if i < N' then some (r i) else none))))))]) ++ va_pl (L ++ (List.range N').map r) (vr_up f ((List.range N').map r) (.inl (cy, z)))) H1 → va_D A ((X ++ [(q, .inl (cA, N', .inr (.inr (.inr (.inr (fun i => if i < N' then some (r i) else none))))))]) ++ va_pl (L ++ (List.range N').map r) (vr_up f ((List.range N').map r) (.inl (cy, z)))) → va_S A H0 H1 locs →
      W p l e R s m args below meth c H1 locs (cells + 1 + N') (slots + N' + N' * K') Q (F0 m (pc + 4) ls (.ref q :: rest))) : W p l e R s m args below meth c H locs cells slots Q (F0 m pc ls (.int k :: .int n :: rest)) := by
  subst hN
  subst hM
  intro T hT Xs
  obtain ⟨vm₁, cA, comp, -, fA, fC, hO, -, X', step⟩ := Xs.multianewarray2F hexec hown hclink (va_AOA.use hover) harr (g := F0 m pc ls (.int k :: .int n :: rest)) rfl (by rw [hb]; exact hdg) rfl hn hk hb1 hb2 hb3 hdf hdd hcells hslots
  have ec : some cy = some comp := hcy.symm.trans fC
  cases ec
  generalize hF : Jvm.Free.Multi.fill (T.setVm vm₁) cA cy n.toNatClampNeg k.toNatClampNeg (defaultValue ty) n.toNatClampNeg = F at X' step
  have hTh : (T.setVm vm₁).heap = H := hT
  obtain ⟨f1, f2, -, -⟩ := Jvm.Free.Multi.fill_facts (T.setVm vm₁) cA cy n.toNatClampNeg k.toNatClampNeg (defaultValue ty) n.toNatClampNeg
  rw [hF, hTh] at f1 f2
  have hold : ∀ x : Nat, x < H.size → F.heap[x]? = H[x]? := fun x hx => by
    have := Jvm.Free.Multi.fill_old (T.setVm vm₁) cA cy n.toNatClampNeg k.toNatClampNeg (defaultValue ty) (a := x) (by rw [hTh]; exact hx) n.toNatClampNeg
    rw [hF, hTh] at this
    exact this
  have hrow : ∀ j : Nat, j < n.toNatClampNeg → F.heap[H.size + 1 + j]? = some (vp_cell cy z) := fun j hj => by
    have := Jvm.Free.Multi.fill_inner (T.setVm vm₁) cA cy n.toNatClampNeg k.toNatClampNeg (defaultValue ty) n.toNatClampNeg j hj
    rw [hF, hTh, hz] at this
    exact this
  have hout : Jvm.Free.Multi.outerC cA n.toNatClampNeg H.size n.toNatClampNeg = vp_cell cA (n.toNatClampNeg, .inr (.inr (.inr (.inr (fun i => if i < n.toNatClampNeg then some (H.size + 1 + i) else none))))) := by
    rw [vp_cell_q]
    exact vr_outer cA n.toNatClampNeg H.size n.toNatClampNeg
  rw [hout] at f2
  have hlt : ∀ a, a ∈ L → a < H.size := fun a ha => by
    obtain ⟨k9, hk9⟩ := va_pl_get (X := X) (f := f) ha
    exact (hP k9 _ hk9).lt
  have hnl : ∀ i : Nat, i < n.toNatClampNeg → H.size + 1 + i ∉ L := fun i _ h => by
    have := hlt _ h
    omega
  have hnm : ∀ a, a ∈ (List.range n.toNatClampNeg).map (fun i => H.size + 1 + i) → a ∉ L := fun a ha h => by
    obtain ⟨i, -, rfl⟩ := List.mem_map.mp ha
    have := hlt _ h
    omega
  have hP0 : va_P D cl (X ++ va_pl L f) F.heap := hP.kept (fun k9 x hx => hold x.1 ((hP k9 x hx).lt))
  have hP1 : va_P D cl ((X ++ va_pl L f) ++ [(H.size, .inl (cA, n.toNatClampNeg, .inr (.inr (.inr (.inr (fun i => if i < n.toNatClampNeg then some (H.size + 1 + i) else none))))))]) F.heap := hP0.app (fun k9 x hx => by
    have h0 : k9 < 1 := (List.getElem?_eq_some_iff.mp hx).1
    rw [show k9 = 0 by omega] at hx
    cases hx
    exact f2)
  have hP2 : va_P D cl (((X ++ va_pl L f) ++ [(H.size, .inl (cA, n.toNatClampNeg, .inr (.inr (.inr (.inr (fun i => if i < n.toNatClampNeg then some (H.size + 1 + i) else none))))))]) ++ ((List.range n.toNatClampNeg).map (fun i => H.size + 1 + i)).map (fun a => (a, .inl (cy, z)))) F.heap := hP1.app (fun k9 x hx => by
    obtain ⟨a, ha, rfl⟩ := List.mem_map.mp (List.mem_of_getElem? hx)
    obtain ⟨i, hi, rfl⟩ := List.mem_map.mp ha
    exact hrow i (List.mem_range.mp hi))
  have hD2 : va_D A (((X ++ va_pl L f) ++ [(H.size, .inl (cA, n.toNatClampNeg, .inr (.inr (.inr (.inr (fun i => if i < n.toNatClampNeg then some (H.size + 1 + i) else none))))))]) ++ ((List.range n.toNatClampNeg).map (fun i => H.size + 1 + i)).map (fun a => (a, .inl (cy, z)))) := by
    have hD1 := hD.push (e := .inl (cA, n.toNatClampNeg, .inr (.inr (.inr (.inr (fun i => if i < n.toNatClampNeg then some (H.size + 1 + i) else none)))))) hP rfl (hA _ hS.1)
    generalize hW1 : (X ++ va_pl L f) ++ [(H.size, .inl (cA, n.toNatClampNeg, .inr (.inr (.inr (.inr (fun i => if i < n.toNatClampNeg then some (H.size + 1 + i) else none))))))] = W1 at hD1 hP1 ⊢
    have hle : ∀ (k9 : Nat) (x : Nat × va_E), W1[k9]? = some x → x.1 ≤ H.size := fun k9 x hx => by
      rw [← hW1] at hx
      by_cases hl : k9 < (X ++ va_pl L f).length
      · rw [List.getElem?_append_left hl] at hx
        exact Nat.le_of_lt ((hP k9 x hx).lt)
      · rw [List.getElem?_append_right (by omega)] at hx
        have h0 : k9 - (X ++ va_pl L f).length < 1 := (List.getElem?_eq_some_iff.mp hx).1
        rw [show k9 - (X ++ va_pl L f).length = 0 by omega] at hx
        cases hx
        exact Nat.le_refl _
    have hr : ∀ (k9 : Nat) (x : Nat × va_E), (((List.range n.toNatClampNeg).map (fun i => H.size + 1 + i)).map (fun a => ((a, .inl (cy, z)) : Nat × va_E)))[k9]? = some x → x.1 = H.size + 1 + k9 := fun k9 x hx => by
      rw [List.getElem?_map, List.getElem?_map] at hx
      by_cases h9 : k9 < n.toNatClampNeg
      · rw [List.getElem?_range h9] at hx
        cases hx
        rfl
      · have hn0 : (List.range n.toNatClampNeg)[k9]? = none := List.getElem?_eq_none (by rw [List.length_range]; omega)
        rw [hn0] at hx
        cases hx
    refine ⟨fun i j x y hi hj hxy => ?_, fun k9 x hx => ?_⟩
    · by_cases h1 : i < W1.length <;> by_cases h2 : j < W1.length
      · rw [List.getElem?_append_left h1] at hi
        rw [List.getElem?_append_left h2] at hj
        exact hD1.1 i j x y hi hj hxy
      · rw [List.getElem?_append_left h1] at hi
        rw [List.getElem?_append_right (by omega)] at hj
        have := hle _ _ hi
        have := hr _ _ hj
        omega
      · rw [List.getElem?_append_right (by omega)] at hi
        rw [List.getElem?_append_left h2] at hj
        have := hle _ _ hj
        have := hr _ _ hi
        omega
      · rw [List.getElem?_append_right (by omega)] at hi hj
        have := hr _ _ hi
        have := hr _ _ hj
        omega
    · by_cases h1 : k9 < W1.length
      · rw [List.getElem?_append_left h1] at hx
        exact hD1.2 k9 x hx
      · rw [List.getElem?_append_right (by omega)] at hx
        have := hr _ _ hx
        exact hA _ (by have := hS.1; omega)
  have hAr : ArrOfT s cA (.array ty) := fun N9 z9 => by
    obtain ⟨-, k9, hk9, cm9, hkk9⟩ := (hO 0 0 0).1
    exact ⟨(fun q hq => by cases hq), k9, hk9, cm9, hkk9⟩
  have hK2 : va_K D cl (tys ++ [(cA, .array ty)]) s := ⟨hK.1, fun k9 x hx => by
    by_cases hl : k9 < tys.length
    · rw [List.getElem?_append_left hl] at hx
      exact hK.2 k9 x hx
    · rw [List.getElem?_append_right (by omega)] at hx
      have h0 : k9 - tys.length < 1 := (List.getElem?_eq_some_iff.mp hx).1
      rw [show k9 - tys.length = 0 by omega] at hx
      cases hx
      exact ⟨hAr, fA⟩⟩
  obtain ⟨t, a1, b1⟩ := kk H.size (fun i => H.size + 1 + i) cA F.heap (fun i j _ _ h => by have h9 : H.size + 1 + i = H.size + 1 + j := h; omega) hnl hK2 (by rw [← vr_rows hnm]; exact vr_lay hP2) (by rw [← vr_rows hnm]; exact vr_layD hD2) ⟨by rw [f1]; have := hS.1; omega, fun x h1 h2 => (hold x (Nat.lt_of_lt_of_le h1 hS.1)).trans (hS.2.1 x h1 h2), hS.2.2⟩ F rfl X'
  refine ⟨t, step t ?_, b1⟩
  have e : T.heap.size = H.size := by rw [hT]
  rw [e]
  exact a1
end VGM
/-! ===== END ===== -/

/-! ===== BEGIN exceptions that leave a method, and their catching by the caller (launches without stack traces) ===== -/
section VXA
/-! The laws vx_back, vx_callV, vx_callS, vx_callSW, vx_throw0, vx_throwS follow proofs of the library, with one case more: JvmDerived/Free/Laws.lean (Back.of_free), Shelf42/LK1.lean (callV, callS), Shelf/KitTraced.lean (throwNew0V, throwNewS). -/
/-- where a method has thrown q: the class by its name, the cell, what was written, the world -/
def vx_T (XC : String → State → State → Prop) (st : State) (q : Addr) (t : State) (mc ms : Nat) (free : Addr → Prop) : Prop :=
  ∃ (E : String) (ce : Cell) (L : List Loc), XC E st t ∧ t.heap[q]? = some ce ∧ ce.vm = .none ∧ st.vm.findClass E = some ce.cls ∧ st.WarmedH t.vm ∧ st.sameButNew ({ t with vm := st.vm } : State) L mc ms ∧ ∀ z ∈ L, free z.base
def vx_Q (Qc : Array Value → State → Outcome → State → Prop) (XC : String → State → State → Prop) (mc ms : Nat) (free : Addr → Prop) : Array Value → State → Outcome → State → Prop := fun a st o t =>
  (Qc a st o t ∧ ∃ L, FrameEnd st o t L mc ms ∧ ∀ q ∈ L, free q.base) ∨ ∃ q, o = .threw q ∧ vx_T XC st q t mc ms free
/-- a callee that returns or throws -/
def vx_Met (l : Launch) (y : MethodName) (ws : List Cond) (rm : Room) (Pc : Array Value → State → Prop) (Qc : Array Value → State → Outcome → State → Prop) (XC : String → State → State → Prop) (mc ms : Nat) (free : Addr → Prop) : Prop :=
  MetFree l y (headSpec ws rm) Pc (fun _ _ _ _ _ => True) (vx_Q Qc XC mc ms free)
def vx_Post (XC : String → State → State → Prop) (mc ms : Nat) (free : Addr → Prop) : Pt → Array Value → Addr → Pt → Prop := fun A a q B =>
  ∃ (g : JFrame) (mk : MethodId) (t : State) (L : List Loc) (E : String) (ce : Cell), B.U.heap = t.heap ∧ B.U.vm = t.vm ∧ XC E (A.U.calling g mk a) t ∧ t.heap[q]? = some ce ∧ ce.vm = .none ∧ A.U.vm.findClass E = some ce.cls ∧ B.locs = A.locs ++ L ∧ (∀ z ∈ L, free z.base) ∧ B.cells = A.cells + mc ∧ B.slots = A.slots + ms
def vx_Back (l : Launch) (R : Room) (p : Program) (e : Env) (below : List Frame) (s : State) (sargs : Array Value) (y : MethodName) (len W9 : Nat)
    (Pre : Pt → Array Value → Prop) (Post : Pt → Array Value → Option Value → Pt → Prop) (PostX : Pt → Array Value → Addr → Pt → Prop) : Prop :=
  ∀ (m : MethodId) (meth : Method) (c : Code) (A : Pt) (g : JFrame) (ig : Instr) (mk : MethodId) (a : Array Value),
    Stand p l e R s m sargs below meth c A.U A.locs A.cells A.slots → g.method = m → g.locals.size = c.maxLocals → decode c.code g.pc = .ok (ig, len) →
    2 * g.monitorRoom + (g.stack.map fun v => v.category).sum ≤ W9 → A.U.methodNamed? y = some mk → Pre A a →
    (∃ (v : Option Value) (B : Pt), Stand p l e R s m sargs below meth c B.U B.locs B.cells B.slots ∧ Post A a v B ∧
      Steps p.tables e below (doInvoke e (A.U.setTop g) [] mk a).1 (B.U.setTop { g with pc := g.pc + len, stack := v.toList ++ g.stack })) ∨
    (∃ (q : Addr) (B : Pt), Stand p l e R s m sargs below meth c B.U B.locs B.cells B.slots ∧ PostX A a q B ∧
      Steps p.tables e below (doInvoke e (A.U.setTop g) [] mk a).1 ((B.U.setTop g).pushFrame (.throwing q)))
section Payer
variable {l : Launch} {R : Room} {p : Program} {e : Env} {below : List Frame} {s : State} {sargs : Array Value} {y : MethodName} {len W9 : Nat}
theorem vx_back {ws : List Cond} {rm : Room} {Pc : Array Value → State → Prop} {Qc : Array Value → State → Outcome → State → Prop} {XC : String → State → State → Prop} {mc ms : Nat} {free : Addr → Prop} {bytes : ByteArray} {maxL : Nat} {ret : Option FieldType}
    (hM : vx_Met l y ws rm Pc Qc XC mc ms free) (hblind : FrameBlind Pc) (hrc : rm.cells = mc) (hrs : rm.slots = ms)
    (hframes : rm.frames + 1 ≤ R.frames) (hlocals : W9 + (maxL + 11) + rm.locals ≤ R.locals)
    (hws : ∀ w ∈ ws, ∀ a' U, s.WarmedH U.vm → w.before a' U = true) (hcode : Cond.code y bytes maxL ret ∈ ws) (hinit : ∀ a' U, s.WarmedH U.vm → (Cond.initialized y.cls).before a' U = true) :
    vx_Back l R p e below s sargs y len W9 (PreOf R mc ms Pc) (PostOf Qc mc ms free) (vx_Post XC mc ms free) := by
  intro m meth c A g ig mk a X hg hsize hdg hW hn hp
  have h1 : (headSpec ws rm).pre.before a A.U = true := atoms_intro fun w hw => hws w hw _ _ X.warmed
  have h2 : (Cond.code y bytes maxL ret).before a A.U = true := hws _ hcode _ _ X.warmed
  have h3 : (Cond.initialized y.cls).before a A.U = true := hinit _ _ X.warmed
  have h4 : A.cells + (headSpec ws rm).room.cells ≤ R.cells := by rw [show (headSpec ws rm).room.cells = mc from hrc]; exact hp.1
  have h5 : A.slots + (headSpec ws rm).room.slots ≤ R.slots := by rw [show (headSpec ws rm).room.slots = ms from hrs]; exact hp.2.1
  have hPc : Pc a (A.U.calling g mk a) := hblind _ _ _ _ hp.2.2
  obtain ⟨U, Ls, c0, s0⟩ := A
  dsimp only [Pt.U, Pt.locs, Pt.cells, Pt.slots] at h1 h2 h3 h4 h5 X hn hPc ⊢
  obtain ⟨methY, cY, hmY, hcY, -, hlY, -, -, -, -⟩ := Cond.code_spec hn h2
  obtain ⟨kY, hkY, -⟩ := className_of_methodNamed hn
  have hinitY : kY.init = .initialized := Cond.initialized_spec (findClass_of_methodNamed hn) hkY h3
  have h : At U g.method c below := by rw [hg]; exact X.here
  have hlocals9 : W9 + (maxL + 11) + (headSpec ws rm).room.locals ≤ R.locals := hlocals
  have happ : (headSpec ws rm).appliesLoose y e.platform (U.calling g mk a) = true :=
    Spec.appliesLoose_calling (g := g) h hdg hn hkY hinitY
      (X.room_calling (g := g) (R' := (headSpec ws rm).room) hsize hmY hcY hframes (by rw [hlY]; omega) h4 h5) h1
  obtain ⟨mid, hmid⟩ := h.above
  have hfr : (U.setTop g).frames = (.java g :: mid) ++ below := by rw [State.frames_setTop' g h.top, hmid]; rfl
  obtain ⟨o, s₂, hsteps, -, hend, hq⟩ := Steps.callFree hM p X.admits X.cas X.clock (acts := []) hfr happ hPc trivial
  have hq' : vx_Q Qc XC mc ms free a (U.calling g mk a) o s₂ := hq
  rw [State.frames_setTop' g h.top] at hend
  obtain ⟨g₀, hg0⟩ := Option.isSome_iff_exists.mp h.top
  obtain ⟨r, hr⟩ := State.topJava?_eq_some.mp hg0
  have hr' : (({ U with heap := s₂.heap, slotsUsed := s₂.slotsUsed } : State).setVm s₂.vm).frames = .java g₀ :: r := hr
  rcases hq' with ⟨hqc, L, hfe, hL⟩ | ⟨q, rfl, E, ce, L, hx, hce, hcv, hcl, hW₂, hsm, hL⟩
  · obtain ⟨⟨v, rfl⟩, hW₂, e2, q2, q3, q4, q5, q6⟩ := id hfe
    have e3 : s₂ = ({ (U.calling g mk a).setFrames s₂.frames with heap := s₂.heap, slotsUsed := s₂.slotsUsed } : State).setVm s₂.vm := by
      have : s₂ = ({ s₂ with vm := (U.calling g mk a).vm } : State).setVm s₂.vm := rfl
      rw [e2] at this
      exact this
    obtain ⟨c₂, i₂, len₂, hc₂, hd₂, hf₂⟩ := hend
    have hW' : U.WarmedH s₂.vm := hW₂
    have hcc : c₂ = c := by
      have h1 : s₂.code? g.method = U.code? g.method := by
        rw [State.code?_eq, State.code?_eq, hW'.alike.method?]
      exact Option.some.inj (hc₂.symm.trans (h1.trans h.code))
    subst hcc
    have hlen : len₂ = len := by rw [hdg] at hd₂; cases hd₂; rfl
    subst hlen
    have hs₂ : s₂ = (({ U with heap := s₂.heap, slotsUsed := s₂.slotsUsed } : State).setVm s₂.vm).setTop { g with pc := g.pc + len₂, stack := v.toList ++ g.stack } := by
      refine e3.trans ?_
      rw [hf₂, State.calling_eq h.top, State.setFrames_setFrames, State.setTop_of_frames _ hr', hr]
      rfl
    have hsame : U.sameButNew ({ U with heap := s₂.heap, slotsUsed := s₂.slotsUsed } : State) L mc ms := by
      refine ⟨?_, q2, q3, q4, q5, q6⟩
      obtain ⟨t, ht, -⟩ := State.frames_cons hr
      show ({ U with heap := s₂.heap, slotsUsed := s₂.slotsUsed } : State) = { U.setFrames U.frames with heap := s₂.heap, slotsUsed := s₂.slotsUsed }
      rw [State.setFrames_self ht]
    subst hg
    refine Or.inl ⟨v, ⟨(({ U with heap := s₂.heap, slotsUsed := s₂.slotsUsed } : State).setVm s₂.vm), Ls ++ L, c0 + mc, s0 + ms⟩,
      ⟨X.admits, X.cas, X.clock, X.frames, X.room, X.hears, X.method, X.code, (X.here.setHeapUsed s₂.heap s₂.slotsUsed).setVm hW'.alike, X.tail, State.WarmedH.trans X.warmed hW', X.limits, X.bytes, X.same.trans (hsame.setVm s.vm)⟩,
      ⟨g, mk, s₂, L, rfl, rfl, hqc, rfl, hL, rfl, rfl⟩, ?_⟩
    show Steps p.tables e below _ ((({ U with heap := s₂.heap, slotsUsed := s₂.slotsUsed } : State).setVm s₂.vm).setTop { g with pc := g.pc + len₂, stack := v.toList ++ g.stack })
    rw [← hs₂]
    exact hsteps
  · obtain ⟨e2, q2, q3, q4, q5, q6⟩ := id hsm
    have e3 : s₂ = ({ (U.calling g mk a).setFrames s₂.frames with heap := s₂.heap, slotsUsed := s₂.slotsUsed } : State).setVm s₂.vm := by
      have : s₂ = ({ s₂ with vm := (U.calling g mk a).vm } : State).setVm s₂.vm := rfl
      rw [e2] at this
      exact this
    have hf₂ : s₂.frames = .throwing q :: .java g :: U.frames.tail := hend
    have hW' : U.WarmedH s₂.vm := hW₂
    have hs₂ : s₂ = ((({ U with heap := s₂.heap, slotsUsed := s₂.slotsUsed } : State).setVm s₂.vm).setTop g).pushFrame (.throwing q) := by
      refine e3.trans ?_
      rw [hf₂, State.calling_eq h.top, State.setFrames_setFrames, State.pushFrame, State.frames_setTop _ hr', State.setTop_of_frames _ hr', State.setFrames_setFrames, hr]
      rfl
    have hsame : U.sameButNew ({ U with heap := s₂.heap, slotsUsed := s₂.slotsUsed } : State) L mc ms := by
      refine ⟨?_, q2, q3, q4, q5, q6⟩
      obtain ⟨t, ht, -⟩ := State.frames_cons hr
      show ({ U with heap := s₂.heap, slotsUsed := s₂.slotsUsed } : State) = { U.setFrames U.frames with heap := s₂.heap, slotsUsed := s₂.slotsUsed }
      rw [State.setFrames_self ht]
    subst hg
    refine Or.inr ⟨q, ⟨(({ U with heap := s₂.heap, slotsUsed := s₂.slotsUsed } : State).setVm s₂.vm), Ls ++ L, c0 + mc, s0 + ms⟩,
      ⟨X.admits, X.cas, X.clock, X.frames, X.room, X.hears, X.method, X.code, (X.here.setHeapUsed s₂.heap s₂.slotsUsed).setVm hW'.alike, X.tail, State.WarmedH.trans X.warmed hW', X.limits, X.bytes, X.same.trans (hsame.setVm s.vm)⟩,
      ⟨g, mk, s₂, L, E, ce, rfl, rfl, hx, hce, hcv, hcl, rfl, hL, rfl, rfl⟩, ?_⟩
    show Steps p.tables e below _ (((({ U with heap := s₂.heap, slotsUsed := s₂.slotsUsed } : State).setVm s₂.vm).setTop g).pushFrame (.throwing q))
    rw [← hs₂]
    exact hsteps
end Payer
section Calls
variable {p : Program} {l : Launch} {e : Env} {R : Room} {s : State} {m : MethodId} {args : Array Value} {below : List Frame} {meth : Method} {c : Code} {T : State} {locs : List Loc} {cells slots : Nat}
theorem vx_callV (X : Stand p l e R s m args below meth c T locs cells slots) (hexec : p.tables.exec = Jvm.exec) {own C : String} {index : Nat} {y : MethodName} {bytes : ByteArray} {maxL : Nat} {ret : Option FieldType}
    (hown : s.vm.findClass own = some m.cls) (hlink : (Cond.methodLink own index y).before args s = true) (hinst : (Cond.instanceMethod y).before args s = true) (hsel : (Cond.selects C y y).before args s = true)
    (hcode : (Cond.code y bytes maxL ret).before args s = true) (hy : y.cls ≠ "java/lang/invoke/MethodHandle" ∧ y.cls ≠ "java/lang/invoke/VarHandle")
    {W9 : Nat} {Pre : Pt → Array Value → Prop} {Post : Pt → Array Value → Option Value → Pt → Prop} {PostX : Pt → Array Value → Addr → Pt → Prop} (hK : vx_Back l R p e below s args y 3 W9 Pre Post PostX)
    {b : Addr} {cellB : Cell} (hcell : T.heap[b]? = some cellB) (hobj : cellB.vm.isStatics = false) (hcls : s.vm.findClass C = some cellB.cls)
    {g : JFrame} (hg : g.method = m) (hsize : g.locals.size = c.maxLocals) {argsL rest : List Value} (hlen : ∀ sig, parseMethodDescriptor y.desc = some sig → argsL.length = sig.parameters.length)
    (hstack : g.stack = argsL.reverse ++ .ref b :: rest) (hW : 2 * g.monitorRoom + (rest.map fun v => v.category).sum ≤ W9) (hdg : decode c.code g.pc = .ok (.invokevirtual index, 3))
    (hpre : ∀ vm₁, s.WarmedH vm₁ → Pre ⟨T.setVm vm₁, locs, cells, slots⟩ (Value.ref b :: argsL).toArray) :
    (∃ (v : Option Value) (vm₁ : Vm) (B : Pt), s.WarmedH vm₁ ∧ Stand p l e R s m args below meth c B.U B.locs B.cells B.slots ∧ Post ⟨T.setVm vm₁, locs, cells, slots⟩ (Value.ref b :: argsL).toArray v B ∧
      ∀ target, Steps p.tables e below (B.U.setTop { g with pc := g.pc + 3, stack := v.toList ++ rest }) target → Steps p.tables e below (T.setTop g) target) ∨
    (∃ (q : Addr) (vm₁ : Vm) (B : Pt), s.WarmedH vm₁ ∧ Stand p l e R s m args below meth c B.U B.locs B.cells B.slots ∧ PostX ⟨T.setVm vm₁, locs, cells, slots⟩ (Value.ref b :: argsL).toArray q B ∧
      Steps p.tables e below (T.setTop g) ((B.U.setTop { g with stack := rest }).pushFrame (.throwing q))) := by
  obtain ⟨mk, methM, hnamed, hmethM, hstM, habM⟩ := Cond.instanceMethod_spec hinst
  obtain ⟨methM', cM, hmethM', -, -, -, -, -, -, hsigM⟩ := Cond.code_spec hnamed hcode
  cases hmethM.symm.trans hmethM'
  obtain ⟨c2, r2, m2, q1, q2, q3, q4, kP, hkP, hkPi⟩ := Cond.selects_spec hsel
  cases hcls.symm.trans q1
  cases (State.methodFound?_of_named hnamed hy).symm.trans q2
  cases hnamed.symm.trans q3
  have hselP : selectMethod e.platform s.vm cellB.cls mk = .method mk := by rw [Launch.admits_selectMethod X.admits]; exact q4
  obtain ⟨vm₁, X₁, hstep₁⟩ := X.invokevirtual hexec hown hlink hnamed hmethM hstM hkP hkPi hy (a := b) (cell := cellB) hcell
    (fun z h => by rw [h] at hobj; cases hobj) hselP hmethM habM hkP hkPi (g := g) hg (argsL := argsL) (rest := rest) (hlen _ hsigM) hstack hdg
  rcases hK m meth c ⟨T.setVm vm₁, locs, cells, slots⟩ { g with stack := rest } (.invokevirtual index) mk (Value.ref b :: argsL).toArray X₁ hg hsize hdg hW (X₁.named hnamed) (hpre vm₁ X₁.warmed) with ⟨v, B, X', hpost, hsteps⟩ | ⟨q, B, X', hpost, hsteps⟩
  · exact Or.inl ⟨v, vm₁, B, X₁.warmed, X', hpost, fun target h => hstep₁ _ fun acts => by rw [doInvoke_state]; exact hsteps.trans h⟩
  · exact Or.inr ⟨q, vm₁, B, X₁.warmed, X', hpost, hstep₁ _ fun acts => by rw [doInvoke_state]; exact hsteps⟩
theorem vx_callS (X : Stand p l e R s m args below meth c T locs cells slots) (hexec : p.tables.exec = Jvm.exec) {own : String} {index : Nat} {y : MethodName} {bytes : ByteArray} {maxL : Nat} {ret : Option FieldType}
    (hown : s.vm.findClass own = some m.cls) (hlink : (Cond.methodLink own index y).before args s = true) (hstat : (Cond.static y).before args s = true) (hinit : (Cond.initialized y.cls).before args s = true)
    (hcode : (Cond.code y bytes maxL ret).before args s = true) (hy : y.cls ≠ "java/lang/invoke/MethodHandle" ∧ y.cls ≠ "java/lang/invoke/VarHandle")
    {W9 : Nat} {Pre : Pt → Array Value → Prop} {Post : Pt → Array Value → Option Value → Pt → Prop} {PostX : Pt → Array Value → Addr → Pt → Prop} (hK : vx_Back l R p e below s args y 3 W9 Pre Post PostX)
    {g : JFrame} (hg : g.method = m) (hsize : g.locals.size = c.maxLocals) {argsL rest : List Value} (hlen : ∀ sig, parseMethodDescriptor y.desc = some sig → argsL.length = sig.parameters.length)
    (hstack : g.stack = argsL.reverse ++ rest) (hW : 2 * g.monitorRoom + (rest.map fun v => v.category).sum ≤ W9) (hdg : decode c.code g.pc = .ok (.invokestatic index, 3))
    (hpre : ∀ vm₁, s.WarmedH vm₁ → Pre ⟨T.setVm vm₁, locs, cells, slots⟩ argsL.toArray) :
    (∃ (v : Option Value) (vm₁ : Vm) (B : Pt), s.WarmedH vm₁ ∧ Stand p l e R s m args below meth c B.U B.locs B.cells B.slots ∧ Post ⟨T.setVm vm₁, locs, cells, slots⟩ argsL.toArray v B ∧
      ∀ target, Steps p.tables e below (B.U.setTop { g with pc := g.pc + 3, stack := v.toList ++ rest }) target → Steps p.tables e below (T.setTop g) target) ∨
    (∃ (q : Addr) (vm₁ : Vm) (B : Pt), s.WarmedH vm₁ ∧ Stand p l e R s m args below meth c B.U B.locs B.cells B.slots ∧ PostX ⟨T.setVm vm₁, locs, cells, slots⟩ argsL.toArray q B ∧
      Steps p.tables e below (T.setTop g) ((B.U.setTop { g with stack := rest }).pushFrame (.throwing q))) := by
  obtain ⟨mk, hnamed⟩ := Cond.code_named hcode
  obtain ⟨methM, cM, hmethM, -, -, -, -, -, -, hsigM⟩ := Cond.code_spec hnamed hcode
  have hstatic : methM.isStatic = true := Cond.static_spec hnamed hmethM hstat
  obtain ⟨kP, hkP, -⟩ := className_of_methodNamed hnamed
  have hinitP : kP.init = .initialized := Cond.initialized_spec (findClass_of_methodNamed hnamed) hkP hinit
  obtain ⟨vm₁, X₁, hstep₁⟩ := X.invokestatic hexec hown hlink hnamed hmethM hstatic hkP hinitP hy (g := g) hg (argsL := argsL) (rest := rest) (hlen _ hsigM) hstack hdg
  rcases hK m meth c ⟨T.setVm vm₁, locs, cells, slots⟩ { g with stack := rest } (.invokestatic index) mk argsL.toArray X₁ hg hsize hdg hW (X₁.named hnamed) (hpre vm₁ X₁.warmed) with ⟨v, B, X', hpost, hsteps⟩ | ⟨q, B, X', hpost, hsteps⟩
  · exact Or.inl ⟨v, vm₁, B, X₁.warmed, X', hpost, fun target h => hstep₁ _ fun acts => by rw [doInvoke_state]; exact hsteps.trans h⟩
  · exact Or.inr ⟨q, vm₁, B, X₁.warmed, X', hpost, hstep₁ _ fun acts => by rw [doInvoke_state]; exact hsteps⟩
end Calls
theorem vx_cls {s : State} {T : State} {vm₁ : Vm} {E : String} {k : ClassId} (hW : s.WarmedH vm₁) (h : (T.setVm vm₁).vm.findClass E = some k) : s.vm.findClass E = some k := by
  have h1 : vm₁.findClass E = some k := h
  rw [hW.alike.findClass] at h1
  exact h1
/-- the method's frame g, with q thrown over it -/
def vx_W (p : Program) (l : Launch) (e : Env) (R : Room) (s : State) (m : MethodId) (args : Array Value) (below : List Frame) (meth : Method) (c : Code) (H : Heap) (locs : List Loc) (cells slots : Nat) (Q : State → Prop) (g : JFrame) (q : Addr) : Prop :=
  ∀ T : State, T.heap = H → Stand p l e R s m args below meth c T locs cells slots → ∃ t, Steps p.tables e below ((T.setTop g).pushFrame (.throwing q)) t ∧ Q t
def vx_Run (p : Program) (l : Launch) (e : Env) (R : Room) (s : State) (m : MethodId) (args : Array Value) (below : List Frame) (meth : Method) (c : Code) (H : Heap) (locs : List Loc) (cells slots mc ms : Nat) (g : JFrame) (rest : List Value) (Qa : State → Outcome → State → Prop) (XC : String → State → State → Prop) (free : Addr → Prop) : Prop :=
  ∀ T : State, T.heap = H → Stand p l e R s m args below meth c T locs cells slots →
    (∃ (v : Option Value) (st₀ t T' : State) (L : List Loc), st₀.heap = H ∧ Stand p l e R s m args below meth c T' (locs ++ L) (cells + mc) (slots + ms) ∧ (∀ q ∈ L, free q.base) ∧ T'.heap = t.heap ∧ T'.vm = t.vm ∧ Qa st₀ (.returned v) t ∧
      Goes p e below T g T' { g with pc := g.pc + 3, stack := v.toList ++ rest }) ∨
    (∃ (q : Addr) (st₀ t T' : State) (L : List Loc) (E : String) (ce : Cell), st₀.heap = H ∧ Stand p l e R s m args below meth c T' (locs ++ L) (cells + mc) (slots + ms) ∧ (∀ z ∈ L, free z.base) ∧ T'.heap = t.heap ∧ T'.vm = t.vm ∧ XC E st₀ t ∧ t.heap[q]? = some ce ∧ ce.vm = .none ∧ s.vm.findClass E = some ce.cls ∧
      Steps p.tables e below (T.setTop g) ((T'.setTop { g with stack := rest }).pushFrame (.throwing q)))
def vx_X {S : Type} (px : S → Prop) (B : String → S → State → Prop) (A : Nat → Prop) : String → State → State → Prop := fun E st t => ∃ u : S, px u ∧ B E u t ∧ va_F A st t
section Runs
variable {p : Program} {l : Launch} {e : Env} {R : Room} {s : State} {m : MethodId} {args : Array Value} {below : List Frame} {meth : Method} {c : Code} {H : Heap} {locs : List Loc} {cells slots : Nat}
variable {y : MethodName} {bytes cc : ByteArray} {maxL nL mc ms n index : Nat} {ret : Option FieldType} {ws : List Cond} {rm : Room} {Pc : Array Value → State → Prop} {Qc : Array Value → State → Outcome → State → Prop} {XC : String → State → State → Prop} {free : Addr → Prop} {Ts : List Cond} {own C : String} {b : Addr} {As rest : List Value} {g : JFrame}
theorem vx_callBack (cb : CallB R s args own index y bytes maxL ret ws rm mc ms n) (hM : vx_Met l y ws rm Pc Qc XC mc ms free) (hbl : FrameBlind Pc) : vx_Back l R p e below s args y 3 8 (PreOf R mc ms Pc) (PostOf Qc mc ms free) (vx_Post XC mc ms free) := by
  obtain ⟨hrc, hrs, hfr, hlo, hws, hcw, -, hini, -⟩ := cb
  exact vx_back (bytes := bytes) (maxL := maxL) (ret := ret) hM hbl hrc hrs hfr hlo hws hcw (fun a' U hW => word_at hW (Or.inl (by first | rfl | simp [Cond.onTables, Cond.keeps, Cond.steady])) hini)
theorem vx_runV (S : CallFix p m c cc nL s args Ts own) (hM : vx_Met l y ws rm Pc Qc XC mc ms free) (cw : CallW R s args own C index y bytes maxL ret ws rm mc ms n) (hp : PreV s H C b Pc As)
    (hg : g.method = m) (hn : As.length = n) (hsize : g.locals.size = nL) (hstack : g.stack = As.reverse ++ .ref b :: rest) (hW : 2 * g.monitorRoom + (rest.map fun v => v.category).sum ≤ 8) (hdg : decode cc g.pc = .ok (.invokevirtual index, 3)) (hf : cells + mc ≤ R.cells ∧ slots + ms ≤ R.slots) :
    vx_Run p l e R s m args below meth c H locs cells slots mc ms g rest (Qc (Value.ref b :: As).toArray) XC free := by
  have hK : vx_Back l R p e below s args y 3 8 (PreOf R mc ms Pc) (PostOf Qc mc ms free) (vx_Post XC mc ms free) := vx_callBack cw.1 hM hp.1
  obtain ⟨⟨-, -, -, -, -, -, hcode, -, hy, hlen, hl⟩, hin, hse⟩ := cw
  obtain ⟨hx, hb, hml, ho, -⟩ := S
  obtain ⟨-, ⟨cellB, hcB, hoB, hclB⟩, hPc⟩ := hp
  intro T hT X
  rcases vx_callV X hx (C := C) (bytes := bytes) (maxL := maxL) (ret := ret) ho hl hin hse hcode hy hK (by rw [hT]; exact hcB) hoB hclB hg (hsize.trans hml.symm) (argsL := As) (rest := rest) (fun sig h => hn.trans (hlen sig h)) hstack hW (by rw [hb]; exact hdg)
    (fun vm₁ hW₁ => ⟨hf.1, hf.2, hPc (T.setVm vm₁) hT hW₁⟩) with ⟨v, vm₁, ⟨U', l2, c2, s2⟩, hW₁, X', ⟨g', mk, t, L, e1, e2, hq, h1, hL, h2, h3⟩, st⟩ | ⟨q, vm₁, ⟨U', l2, c2, s2⟩, hW₁, X', ⟨g', mk, t, L, E, ce, e1, e2, hq, hce, hcv, hcl, h1, hL, h2, h3⟩, st⟩
  · dsimp only [Pt.U, Pt.locs, Pt.cells, Pt.slots] at X' e1 e2 h1 h2 h3 st
    subst h1; subst h2; subst h3
    exact Or.inl ⟨v, (T.setVm vm₁).calling g' mk (Value.ref b :: As).toArray, t, U', L, hT, X', hL, e1, e2, hq, st⟩
  · dsimp only [Pt.U, Pt.locs, Pt.cells, Pt.slots] at X' e1 e2 h1 h2 h3 st hcl
    subst h1; subst h2; subst h3
    exact Or.inr ⟨q, (T.setVm vm₁).calling g' mk (Value.ref b :: As).toArray, t, U', L, E, ce, hT, X', hL, e1, e2, hq, hce, hcv, vx_cls hW₁ hcl, st⟩
theorem vx_runS (S : CallFix p m c cc nL s args Ts own) (hM : vx_Met l y ws rm Pc Qc XC mc ms free) (cw : CallB R s args own index y bytes maxL ret ws rm mc ms n ∧ (Cond.static y).before args s = true) (hp : PreS s H Pc As)
    (hg : g.method = m) (hn : As.length = n) (hsize : g.locals.size = nL) (hstack : g.stack = As.reverse ++ rest) (hW : 2 * g.monitorRoom + (rest.map fun v => v.category).sum ≤ 8) (hdg : decode cc g.pc = .ok (.invokestatic index, 3)) (hf : cells + mc ≤ R.cells ∧ slots + ms ≤ R.slots) :
    vx_Run p l e R s m args below meth c H locs cells slots mc ms g rest (Qc As.toArray) XC free := by
  have hK : vx_Back l R p e below s args y 3 8 (PreOf R mc ms Pc) (PostOf Qc mc ms free) (vx_Post XC mc ms free) := vx_callBack cw.1 hM hp.1
  obtain ⟨⟨-, -, -, -, -, -, hcode, hini, hy, hlen, hl⟩, hstt⟩ := cw
  obtain ⟨hx, hb, hml, ho, -⟩ := S
  intro T hT X
  rcases vx_callS X hx (bytes := bytes) (maxL := maxL) (ret := ret) ho hl hstt hini hcode hy hK hg (hsize.trans hml.symm) (argsL := As) (rest := rest) (fun sig h => hn.trans (hlen sig h)) hstack hW (by rw [hb]; exact hdg)
    (fun vm₁ hW₁ => ⟨hf.1, hf.2, hp.2 (T.setVm vm₁) hT hW₁⟩) with ⟨v, vm₁, ⟨U', l2, c2, s2⟩, hW₁, X', ⟨g', mk, t, L, e1, e2, hq, h1, hL, h2, h3⟩, st⟩ | ⟨q, vm₁, ⟨U', l2, c2, s2⟩, hW₁, X', ⟨g', mk, t, L, E, ce, e1, e2, hq, hce, hcv, hcl, h1, hL, h2, h3⟩, st⟩
  · dsimp only [Pt.U, Pt.locs, Pt.cells, Pt.slots] at X' e1 e2 h1 h2 h3 st
    subst h1; subst h2; subst h3
    exact Or.inl ⟨v, (T.setVm vm₁).calling g' mk As.toArray, t, U', L, hT, X', hL, e1, e2, hq, st⟩
  · dsimp only [Pt.U, Pt.locs, Pt.cells, Pt.slots] at X' e1 e2 h1 h2 h3 st hcl
    subst h1; subst h2; subst h3
    exact Or.inr ⟨q, (T.setVm vm₁).calling g' mk As.toArray, t, U', L, E, ce, hT, X', hL, e1, e2, hq, hce, hcv, vx_cls hW₁ hcl, st⟩
end Runs
section Rows
variable {p : Program} {l : Launch} {e : Env} {R : Room} {s : State} {m : MethodId} {args : Array Value} {below : List Frame} {meth : Method} {c : Code} {H : Heap} {locs : List Loc} {cells slots : Nat} {Q : State → Prop}
variable {mc ms : Nat} {free : Addr → Prop} {A0 A1 : Nat → Prop} {H0 : Heap} {a : Array Value} {pc : Nat} {ls : Array Slot} {st0 rest : List Value}
theorem vx_keep {st₀ t T' : State} {L : List Loc} (h0 : st₀.heap = H) (e1 : T'.heap = t.heap) (hS : va_S A0 H0 H locs) (hA : ∀ q, q < H.size → A1 q → A0 q) (hf : ∀ q, free q → A0 q) (hL : ∀ q ∈ L, free q.base) (hF : va_F A1 st₀ t) :
    H.size ≤ T'.heap.size ∧ (∀ q : Nat, q < H.size → ¬ A1 q → T'.heap[q]? = H[q]?) ∧ va_S A0 H0 T'.heap (locs ++ L) := by
  obtain ⟨hz, hk⟩ := hF
  rw [h0] at hz hk
  exact ⟨by rw [e1]; exact hz, fun q h1 h2 => by rw [e1]; exact hk q h1 h2,
    ⟨Nat.le_trans hS.1 (by rw [e1]; exact hz), fun q h1 h2 => by rw [e1, hk q (Nat.lt_of_lt_of_le h1 hS.1) (fun z => h2 (hA q (Nat.lt_of_lt_of_le h1 hS.1) z))]; exact hS.2.1 q h1 h2, fun q hq => by
      rcases List.mem_append.mp hq with h | h
      · exact hS.2.2 q h
      · exact hf _ (hL q h)⟩⟩
theorem vx_calli {S SX : Type} {post : Int32 → S → Prop} {px : SX → Prop} {B : S → State → Prop} {BX : String → SX → State → Prop} {AX : Nat → Prop} (hr : vx_Run p l e R s m args below meth c H locs cells slots mc ms (F0 m pc ls st0) rest (va_Qi post B A1 a) (vx_X px BX AX) free) (hS : va_S A0 H0 H locs) (hA : ∀ q, q < H.size → A1 q → A0 q) (hf : ∀ q, free q → A0 q) (hAX : ∀ q, q < H.size → AX q → A0 q)
    (kx : ∀ (E : String) (ce : Cell) (q9 : Addr) (u : SX) (t : State) (H1 : Heap) (locs1 : List Loc), t.heap = H1 → s.vm.Alike t.vm → px u → BX E u t → H.size ≤ H1.size → (∀ q : Nat, q < H.size → ¬ AX q → H1[q]? = H[q]?) → va_S A0 H0 H1 locs1 → H1[q9]? = some ce → ce.vm = .none → s.vm.findClass E = some ce.cls → vx_W p l e R s m args below meth c H1 locs1 (cells + mc) (slots + ms) Q (F0 m pc ls rest) q9)
    (kk : ∀ (r : Int32) (u : S) (t : State) (H1 : Heap) (locs1 : List Loc), t.heap = H1 → s.vm.Alike t.vm → post r u → B u t → H.size ≤ H1.size → (∀ q : Nat, q < H.size → ¬ A1 q → H1[q]? = H[q]?) → va_S A0 H0 H1 locs1 → W p l e R s m args below meth c H1 locs1 (cells + mc) (slots + ms) Q (F0 m (pc + 3) ls (.int r :: rest))) : W p l e R s m args below meth c H locs cells slots Q (F0 m pc ls st0) := by
  intro T hT X
  rcases hr T hT X with ⟨v, st₀, t, T', L, h0, X', hL, e1, e2, ⟨⟨r, u, hv, hp, hb⟩, hF⟩, st⟩ | ⟨q, st₀, t, T', L, E, ce, h0, X', hL, e1, e2, ⟨u, hp, hb, hF⟩, hce, hcv, hcl, st⟩
  · cases hv
    obtain ⟨k1, k2, k3⟩ := vx_keep h0 e1 hS hA hf hL hF
    obtain ⟨t2, a1, b1⟩ := kk r u t T'.heap (locs ++ L) e1.symm (by rw [← e2]; exact X'.warmed.alike) hp hb k1 k2 k3 T' rfl X'
    exact ⟨t2, st t2 a1, b1⟩
  · obtain ⟨k1, k2, k3⟩ := vx_keep h0 e1 hS hAX hf hL hF
    obtain ⟨t2, a1, b1⟩ := kx E ce q u t T'.heap (locs ++ L) e1.symm (by rw [← e2]; exact X'.warmed.alike) hp hb k1 k2 k3 (by rw [e1]; exact hce) hcv hcl T' rfl X'
    exact ⟨t2, st.trans a1, b1⟩
theorem vx_calll {S SX : Type} {post : Int64 → S → Prop} {px : SX → Prop} {B : S → State → Prop} {BX : String → SX → State → Prop} {AX : Nat → Prop} (hr : vx_Run p l e R s m args below meth c H locs cells slots mc ms (F0 m pc ls st0) rest (va_Ql post B A1 a) (vx_X px BX AX) free) (hS : va_S A0 H0 H locs) (hA : ∀ q, q < H.size → A1 q → A0 q) (hf : ∀ q, free q → A0 q) (hAX : ∀ q, q < H.size → AX q → A0 q)
    (kx : ∀ (E : String) (ce : Cell) (q9 : Addr) (u : SX) (t : State) (H1 : Heap) (locs1 : List Loc), t.heap = H1 → s.vm.Alike t.vm → px u → BX E u t → H.size ≤ H1.size → (∀ q : Nat, q < H.size → ¬ AX q → H1[q]? = H[q]?) → va_S A0 H0 H1 locs1 → H1[q9]? = some ce → ce.vm = .none → s.vm.findClass E = some ce.cls → vx_W p l e R s m args below meth c H1 locs1 (cells + mc) (slots + ms) Q (F0 m pc ls rest) q9)
    (kk : ∀ (r : Int64) (u : S) (t : State) (H1 : Heap) (locs1 : List Loc), t.heap = H1 → s.vm.Alike t.vm → post r u → B u t → H.size ≤ H1.size → (∀ q : Nat, q < H.size → ¬ A1 q → H1[q]? = H[q]?) → va_S A0 H0 H1 locs1 → W p l e R s m args below meth c H1 locs1 (cells + mc) (slots + ms) Q (F0 m (pc + 3) ls (.long r :: rest))) : W p l e R s m args below meth c H locs cells slots Q (F0 m pc ls st0) := by
  intro T hT X
  rcases hr T hT X with ⟨v, st₀, t, T', L, h0, X', hL, e1, e2, ⟨⟨r, u, hv, hp, hb⟩, hF⟩, st⟩ | ⟨q, st₀, t, T', L, E, ce, h0, X', hL, e1, e2, ⟨u, hp, hb, hF⟩, hce, hcv, hcl, st⟩
  · cases hv
    obtain ⟨k1, k2, k3⟩ := vx_keep h0 e1 hS hA hf hL hF
    obtain ⟨t2, a1, b1⟩ := kk r u t T'.heap (locs ++ L) e1.symm (by rw [← e2]; exact X'.warmed.alike) hp hb k1 k2 k3 T' rfl X'
    exact ⟨t2, st t2 a1, b1⟩
  · obtain ⟨k1, k2, k3⟩ := vx_keep h0 e1 hS hAX hf hL hF
    obtain ⟨t2, a1, b1⟩ := kx E ce q u t T'.heap (locs ++ L) e1.symm (by rw [← e2]; exact X'.warmed.alike) hp hb k1 k2 k3 (by rw [e1]; exact hce) hcv hcl T' rfl X'
    exact ⟨t2, st.trans a1, b1⟩
theorem vx_callf {S SX : Type} {post : UInt32 → S → Prop} {px : SX → Prop} {B : S → State → Prop} {BX : String → SX → State → Prop} {AX : Nat → Prop} (hr : vx_Run p l e R s m args below meth c H locs cells slots mc ms (F0 m pc ls st0) rest (va_Qf post B A1 a) (vx_X px BX AX) free) (hS : va_S A0 H0 H locs) (hA : ∀ q, q < H.size → A1 q → A0 q) (hf : ∀ q, free q → A0 q) (hAX : ∀ q, q < H.size → AX q → A0 q)
    (kx : ∀ (E : String) (ce : Cell) (q9 : Addr) (u : SX) (t : State) (H1 : Heap) (locs1 : List Loc), t.heap = H1 → s.vm.Alike t.vm → px u → BX E u t → H.size ≤ H1.size → (∀ q : Nat, q < H.size → ¬ AX q → H1[q]? = H[q]?) → va_S A0 H0 H1 locs1 → H1[q9]? = some ce → ce.vm = .none → s.vm.findClass E = some ce.cls → vx_W p l e R s m args below meth c H1 locs1 (cells + mc) (slots + ms) Q (F0 m pc ls rest) q9)
    (kk : ∀ (r : UInt32) (u : S) (t : State) (H1 : Heap) (locs1 : List Loc), t.heap = H1 → s.vm.Alike t.vm → post r u → B u t → H.size ≤ H1.size → (∀ q : Nat, q < H.size → ¬ A1 q → H1[q]? = H[q]?) → va_S A0 H0 H1 locs1 → W p l e R s m args below meth c H1 locs1 (cells + mc) (slots + ms) Q (F0 m (pc + 3) ls (.float r :: rest))) : W p l e R s m args below meth c H locs cells slots Q (F0 m pc ls st0) := by
  intro T hT X
  rcases hr T hT X with ⟨v, st₀, t, T', L, h0, X', hL, e1, e2, ⟨⟨r, u, hv, hp, hb⟩, hF⟩, st⟩ | ⟨q, st₀, t, T', L, E, ce, h0, X', hL, e1, e2, ⟨u, hp, hb, hF⟩, hce, hcv, hcl, st⟩
  · cases hv
    obtain ⟨k1, k2, k3⟩ := vx_keep h0 e1 hS hA hf hL hF
    obtain ⟨t2, a1, b1⟩ := kk r u t T'.heap (locs ++ L) e1.symm (by rw [← e2]; exact X'.warmed.alike) hp hb k1 k2 k3 T' rfl X'
    exact ⟨t2, st t2 a1, b1⟩
  · obtain ⟨k1, k2, k3⟩ := vx_keep h0 e1 hS hAX hf hL hF
    obtain ⟨t2, a1, b1⟩ := kx E ce q u t T'.heap (locs ++ L) e1.symm (by rw [← e2]; exact X'.warmed.alike) hp hb k1 k2 k3 (by rw [e1]; exact hce) hcv hcl T' rfl X'
    exact ⟨t2, st.trans a1, b1⟩
theorem vx_calld {S SX : Type} {post : UInt64 → S → Prop} {px : SX → Prop} {B : S → State → Prop} {BX : String → SX → State → Prop} {AX : Nat → Prop} (hr : vx_Run p l e R s m args below meth c H locs cells slots mc ms (F0 m pc ls st0) rest (va_Qd post B A1 a) (vx_X px BX AX) free) (hS : va_S A0 H0 H locs) (hA : ∀ q, q < H.size → A1 q → A0 q) (hf : ∀ q, free q → A0 q) (hAX : ∀ q, q < H.size → AX q → A0 q)
    (kx : ∀ (E : String) (ce : Cell) (q9 : Addr) (u : SX) (t : State) (H1 : Heap) (locs1 : List Loc), t.heap = H1 → s.vm.Alike t.vm → px u → BX E u t → H.size ≤ H1.size → (∀ q : Nat, q < H.size → ¬ AX q → H1[q]? = H[q]?) → va_S A0 H0 H1 locs1 → H1[q9]? = some ce → ce.vm = .none → s.vm.findClass E = some ce.cls → vx_W p l e R s m args below meth c H1 locs1 (cells + mc) (slots + ms) Q (F0 m pc ls rest) q9)
    (kk : ∀ (r : UInt64) (u : S) (t : State) (H1 : Heap) (locs1 : List Loc), t.heap = H1 → s.vm.Alike t.vm → post r u → B u t → H.size ≤ H1.size → (∀ q : Nat, q < H.size → ¬ A1 q → H1[q]? = H[q]?) → va_S A0 H0 H1 locs1 → W p l e R s m args below meth c H1 locs1 (cells + mc) (slots + ms) Q (F0 m (pc + 3) ls (.double r :: rest))) : W p l e R s m args below meth c H locs cells slots Q (F0 m pc ls st0) := by
  intro T hT X
  rcases hr T hT X with ⟨v, st₀, t, T', L, h0, X', hL, e1, e2, ⟨⟨r, u, hv, hp, hb⟩, hF⟩, st⟩ | ⟨q, st₀, t, T', L, E, ce, h0, X', hL, e1, e2, ⟨u, hp, hb, hF⟩, hce, hcv, hcl, st⟩
  · cases hv
    obtain ⟨k1, k2, k3⟩ := vx_keep h0 e1 hS hA hf hL hF
    obtain ⟨t2, a1, b1⟩ := kk r u t T'.heap (locs ++ L) e1.symm (by rw [← e2]; exact X'.warmed.alike) hp hb k1 k2 k3 T' rfl X'
    exact ⟨t2, st t2 a1, b1⟩
  · obtain ⟨k1, k2, k3⟩ := vx_keep h0 e1 hS hAX hf hL hF
    obtain ⟨t2, a1, b1⟩ := kx E ce q u t T'.heap (locs ++ L) e1.symm (by rw [← e2]; exact X'.warmed.alike) hp hb k1 k2 k3 (by rw [e1]; exact hce) hcv hcl T' rfl X'
    exact ⟨t2, st.trans a1, b1⟩
theorem vx_callv {S SX : Type} {post : S → Prop} {px : SX → Prop} {B : S → State → Prop} {BX : String → SX → State → Prop} {AX : Nat → Prop} (hr : vx_Run p l e R s m args below meth c H locs cells slots mc ms (F0 m pc ls st0) rest (va_Qv post B A1 a) (vx_X px BX AX) free) (hS : va_S A0 H0 H locs) (hA : ∀ q, q < H.size → A1 q → A0 q) (hf : ∀ q, free q → A0 q) (hAX : ∀ q, q < H.size → AX q → A0 q)
    (kx : ∀ (E : String) (ce : Cell) (q9 : Addr) (u : SX) (t : State) (H1 : Heap) (locs1 : List Loc), t.heap = H1 → s.vm.Alike t.vm → px u → BX E u t → H.size ≤ H1.size → (∀ q : Nat, q < H.size → ¬ AX q → H1[q]? = H[q]?) → va_S A0 H0 H1 locs1 → H1[q9]? = some ce → ce.vm = .none → s.vm.findClass E = some ce.cls → vx_W p l e R s m args below meth c H1 locs1 (cells + mc) (slots + ms) Q (F0 m pc ls rest) q9)
    (kk : ∀ (u : S) (t : State) (H1 : Heap) (locs1 : List Loc), t.heap = H1 → s.vm.Alike t.vm → post u → B u t → H.size ≤ H1.size → (∀ q : Nat, q < H.size → ¬ A1 q → H1[q]? = H[q]?) → va_S A0 H0 H1 locs1 → W p l e R s m args below meth c H1 locs1 (cells + mc) (slots + ms) Q (F0 m (pc + 3) ls (rest))) : W p l e R s m args below meth c H locs cells slots Q (F0 m pc ls st0) := by
  intro T hT X
  rcases hr T hT X with ⟨v, st₀, t, T', L, h0, X', hL, e1, e2, ⟨⟨u, hv, hp, hb⟩, hF⟩, st⟩ | ⟨q, st₀, t, T', L, E, ce, h0, X', hL, e1, e2, ⟨u, hp, hb, hF⟩, hce, hcv, hcl, st⟩
  · cases hv
    obtain ⟨k1, k2, k3⟩ := vx_keep h0 e1 hS hA hf hL hF
    obtain ⟨t2, a1, b1⟩ := kk u t T'.heap (locs ++ L) e1.symm (by rw [← e2]; exact X'.warmed.alike) hp hb k1 k2 k3 T' rfl X'
    exact ⟨t2, st t2 a1, b1⟩
  · obtain ⟨k1, k2, k3⟩ := vx_keep h0 e1 hS hAX hf hL hF
    obtain ⟨t2, a1, b1⟩ := kx E ce q u t T'.heap (locs ++ L) e1.symm (by rw [← e2]; exact X'.warmed.alike) hp hb k1 k2 k3 (by rw [e1]; exact hce) hcv hcl T' rfl X'
    exact ⟨t2, st.trans a1, b1⟩
/-- caught by the row x of this method's table; the rows ahead don't take it -/
theorem vx_catch {own name : String} {E : String} {ce : Cell} {q : Addr} (hown : s.vm.findClass own = some m.cls) (pre : List ExceptionTableEntry) (x : ExceptionTableEntry) (suf : List ExceptionTableEntry) (hsplit : c.exceptionTable.toList = pre ++ x :: suf)
    (hpass : ∀ z ∈ pre, covers z pc = false ∨ (z.catchType ≠ 0 ∧ ∃ nm : String, (Cond.classLink own z.catchType nm).before args s = true ∧ va_Nc E nm s)) (hx : covers x pc = true) (h0 : x.catchType ≠ 0)
    (hlink : (Cond.classLink own x.catchType name).before args s = true) (hcast : (Cond.castable E name).before args s = true) (hcell : H[q]? = some ce) (hv : ce.vm = .none) (hcl : s.vm.findClass E = some ce.cls)
    (kk : W p l e R s m args below meth c H locs cells slots Q (F0 m x.handlerPc ls [.ref q])) : vx_W p l e R s m args below meth c H locs cells slots Q (F0 m pc ls rest) q := by
  intro T hT X
  have hpl : e.platform.magicAccessors = ({} : Platform).magicAccessors := by rw [X.admits.platform]
  obtain ⟨c3, c4, hc3, hc4, hasg⟩ := Cond.castable_spec hcast
  cases Option.some.inj (hc3.symm.trans hcl)
  obtain ⟨c5, hc5, hcl5⟩ := Cond.classLink_spec hown hlink e.platform hpl
  cases Option.some.inj (hc4.symm.trans hc5)
  obtain ⟨vm', X', st⟩ := X.thenCaughtThrough q (g := F0 m pc ls rest) rfl (Steps.refl _) (by rw [hT]; exact hcell) (by rw [hv]; rfl) (by obtain ⟨k9, h9, -⟩ := Vm.findClass_spec hcl; exact ⟨k9, h9⟩) pre x suf hsplit
    (fun z hz => by
      rcases hpass z hz with h | ⟨hz0, nm, hl1, hn1⟩
      · exact Or.inl h
      · obtain ⟨c6, hc6, hcl6⟩ := Cond.classLink_spec hown hl1 e.platform hpl
        obtain ⟨a8, b8, h1, h2, h3⟩ := hn1
        cases Option.some.inj (h1.symm.trans hcl)
        cases Option.some.inj (h2.symm.trans hc6)
        exact Or.inr ⟨hz0, _, hcl6, h3⟩) hx (Or.inr ⟨h0, c4, hcl5, hasg⟩)
  obtain ⟨t, a1, b1⟩ := kk (T.setVm vm') hT X'
  exact ⟨t, st.trans a1, b1⟩
end Rows
section Ends
variable {p : Program} {l : Launch} {e : Env} {R : Room} {s : State} {m : MethodId} {args : Array Value} {below : List Frame} {meth : Method} {c : Code} {H : Heap} {locs : List Loc} {cells slots : Nat} {Q : State → Prop}
variable {mc ms : Nat} {free : Addr → Prop} {A0 A1 : Nat → Prop} {H0 : Heap} {a : Array Value} {ls : Array Slot} {st0 rest : List Value}
variable {Qc : Array Value → State → Outcome → State → Prop} {XC : String → State → State → Prop}
/-- what a body that may throw owes at its end -/
def vx_MQ (below : List Frame) (Qc : Array Value → State → Outcome → State → Prop) (XC : String → State → State → Prop) (a : Array Value) (s : State) (mc ms : Nat) (free : Addr → Prop) : State → Prop := fun t =>
  ∃ o, t.status = .running ∧ Ended t below o ∧ vx_Q Qc XC mc ms free a s o t
theorem vx_ret {g : JFrame} {mc ms : Nat} (k : W p l e R s m args below meth c H locs cells slots (MQ below Qc args s mc ms free) g) : W p l e R s m args below meth c H locs cells slots (vx_MQ below Qc XC args s mc ms free) g := by
  intro T hT X
  obtain ⟨t, a1, o, b1, b2, b3, b4⟩ := k T hT X
  exact ⟨t, a1, o, b1, b2, Or.inl ⟨b3, b4⟩⟩
/-- not caught here: it goes on to the caller -/
theorem vx_widen {g : JFrame} {q : Addr} {k n : Nat} (h1 : cells ≤ k) (h2 : slots ≤ n) (kk : vx_W p l e R s m args below meth c H locs k n Q g q) : vx_W p l e R s m args below meth c H locs cells slots Q g q := fun T hT X => kk T hT (stand_widen X h1 h2)
theorem vx_out {pc : Nat} {E : String} {ce : Cell} {q : Addr} {mc ms : Nat} (hout : ∀ x ∈ c.exceptionTable.toList, covers x pc = false) (hlocks : meth.locks = false) (hcell : H[q]? = some ce) (hv : ce.vm = .none) (hcl : s.vm.findClass E = some ce.cls)
    (hx : ∀ t : State, t.heap = H → s.vm.Alike t.vm → XC E s t) (hf : ∀ z ∈ locs, free z.base) (hc : cells ≤ mc) (hs : slots ≤ ms) :
    vx_W p l e R s m args below meth c H locs cells slots (vx_MQ below Qc XC args s mc ms free) (F0 m pc ls rest) q := by
  intro T hT X
  obtain ⟨st1, hrun, hend, hW, hsm⟩ := X.leaveThrown q (g := F0 m pc ls rest) rfl rfl rfl hout hlocks
  have hcell9 : (T.setFrames (.throwing q :: below)).heap[q]? = some ce := by
    show T.heap[q]? = some ce
    rw [hT]; exact hcell
  exact ⟨_, st1, .threw q, hrun, hend, Or.inr ⟨q, rfl, E, ce, locs, hx _ hT hW.alike, hcell9, hv, hcl, hW, hsm.mono hc hs, hf⟩⟩
theorem vx_frame {U : State} {k n : Nat} (h : s.sameButNew ({ U with vm := s.vm } : State) locs k n) : s.heap.size ≤ U.heap.size ∧ ∀ q : Nat, q < s.heap.size → (∀ z ∈ locs, z.base ≠ q) → U.heap[q]? = s.heap[q]? := by
  obtain ⟨-, h2, -, -, -, h6⟩ := h
  refine ⟨h2, fun q hq hz => ?_⟩
  obtain ⟨c9, e1, e2, e3, e4⟩ := h6 q _ (Array.getElem?_eq_getElem hq)
  have hs : c9.slots = (s.heap[q]).slots := Array.ext_getElem? fun i => e4 i fun hm => hz _ hm rfl
  have h9 : c9 = s.heap[q] := by
    rw [hs] at e2
    exact e2
  have e5 : U.heap[q]? = some c9 := e1
  rw [e5, h9, Array.getElem?_eq_getElem hq]
/-- the words of a throw but the four that speak of the heap -/
def vx_no (w : Cond) : Bool := decide (w ≠ .isRef (.static Bundle.tN "UNASSIGNED_STACK" Bundle.steD)) && decide (w ≠ .isRef (.static Bundle.tN "SUPPRESSED_SENTINEL" Bundle.listD)) && decide (w ≠ .laysStatic Bundle.tN "UNASSIGNED_STACK" Bundle.steD) && decide (w ≠ .laysStatic Bundle.tN "SUPPRESSED_SENTINEL" Bundle.listD)
def vx_at0 (own : String) (ic : Nat) (X : String) (names : List String) : List Cond := (Bundle.ownAtoms0 own ic X names).filter vx_no
def vx_atS (own : String) (ic : Nat) (X : String) (names : List String) : List Cond := (Bundle.ownAtoms own ic X names).filter vx_no
/-- a word that the tables alone decide, or a good one -/
def vx_ot (w : Cond) : Bool := w.onTables || goodWord w
theorem vx_ot_at {args a' : Array Value} {s U : State} {w : Cond} (hW : s.WarmedH U.vm) (hvm : s.vm = U.vm) (hg : vx_ot w = true) (h : w.before args s = true) : w.before a' U = true := by
  simp only [vx_ot, Bool.or_eq_true] at hg
  rcases hg with hg | hg
  · exact va_tabs hg hvm h
  · exact word_at hW (good_of_word hg) h
/-- a list's words: the good ones out of the method's own list, the others by premises of their own -/
theorem vx_hat {args : Array Value} {s : State} {L B : List Cond} (h1 : ∀ w ∈ L.filter goodWord, w.before args s = true) (h2 : ∀ w ∈ L.filter (fun w => !goodWord w), w ∈ B) (h3 : ∀ w ∈ B, w.before args s = true) : ∀ w ∈ L, w.before args s = true := by
  intro w hw
  by_cases g : goodWord w = true
  · exact h1 w (List.mem_filter.mpr ⟨hw, g⟩)
  · refine h3 w (h2 w (List.mem_filter.mpr ⟨hw, ?_⟩))
    show (!goodWord w) = true
    cases hgw : goodWord w
    · rfl
    · exact absurd hgw g
theorem vx_c {args : Array Value} {s : State} {w : Cond} {B : List Cond} (h : w.before args s = true) (t : ∀ w ∈ B, w.before args s = true) : ∀ w' ∈ w :: B, w'.before args s = true := fun w' h' => (List.mem_cons.mp h').elim (fun e => by rw [e]; exact h) (t w')
theorem vx_n {args : Array Value} {s : State} : ∀ w ∈ ([] : List Cond), w.before args s = true := fun _ h => nomatch h
theorem vx_own {args : Array Value} {s : State} {L : List Cond} (h1 : ∀ w ∈ L.filter vx_no, w.before args s = true)
    (hU : (Cond.isRef (.static Bundle.tN "UNASSIGNED_STACK" Bundle.steD)).before args s = true) (hN : (Cond.isRef (.static Bundle.tN "SUPPRESSED_SENTINEL" Bundle.listD)).before args s = true)
    (lU : (Cond.laysStatic Bundle.tN "UNASSIGNED_STACK" Bundle.steD).before args s = true) (lN : (Cond.laysStatic Bundle.tN "SUPPRESSED_SENTINEL" Bundle.listD).before args s = true) : ∀ w ∈ L, w.before args s = true := by
  intro w hw
  by_cases e1 : w = .isRef (.static Bundle.tN "UNASSIGNED_STACK" Bundle.steD)
  · rw [e1]; exact hU
  · by_cases e2 : w = .isRef (.static Bundle.tN "SUPPRESSED_SENTINEL" Bundle.listD)
    · rw [e2]; exact hN
    · by_cases e3 : w = .laysStatic Bundle.tN "UNASSIGNED_STACK" Bundle.steD
      · rw [e3]; exact lU
      · by_cases e4 : w = .laysStatic Bundle.tN "SUPPRESSED_SENTINEL" Bundle.listD
        · rw [e4]; exact lN
        · exact h1 w (List.mem_filter.mpr ⟨hw, by unfold vx_no; rw [decide_eq_true e1, decide_eq_true e2, decide_eq_true e3, decide_eq_true e4]; rfl⟩)
/-- where a static field lies, its class's statics cell in H -/
def vx_L (C n d : String) (A : Nat → Prop) (U : State) (H : Heap) : Prop := ∃ (c : ClassId) (k : Class) (i : Nat) (f : Field) (a : Nat) (cell : Cell), U.vm.findClass C = some c ∧ U.fieldFound? C n d = some (c, k, i, f) ∧ f.isStatic = true ∧ k.statics = some a ∧ H[a]? = some cell ∧ cell.vm.isStatics = true ∧ cell.cls = c ∧ f.slot < cell.slots.size ∧ k.staticTypes[f.slot]? = some f.type ∧ ¬ A a
theorem vx_L.moved {C n d : String} {A : Nat → Prop} {u U : State} {H : Heap} (hvm : u.vm.Alike U.vm) (h : vx_L C n d A u H) : vx_L C n d A U H := by
  obtain ⟨c, k, i, f, a, cell, h1, h2, h3, h4, h5, h6, h7, h8, h9, h10⟩ := h
  obtain ⟨k', hi', he⟩ := State.fieldFound?_setVm hvm h2
  exact ⟨c, k', i, f, a, cell, by rw [hvm.findClass]; exact h1, hi', h3, by rw [he]; exact h4, h5, h6, h7, h8, by rw [he]; exact h9, h10⟩
theorem vx_L.kept {C n d : String} {A : Nat → Prop} {U : State} {H H1 : Heap} (h : vx_L C n d A U H) (hq : ∀ a : Nat, a < H.size → ¬ A a → H1[a]? = H[a]?) : vx_L C n d A U H1 := by
  obtain ⟨c, k, i, f, a, cell, h1, h2, h3, h4, h5, h6, h7, h8, h9, h10⟩ := h
  exact ⟨c, k, i, f, a, cell, h1, h2, h3, h4, by rw [hq a (Array.getElem?_eq_some_iff.mp h5).1 h10]; exact h5, h6, h7, h8, h9, h10⟩
theorem vx_L.narrow {C n d : String} {A B : Nat → Prop} {U : State} {H : Heap} (h : vx_L C n d A U H) (hAB : ∀ q, B q → A q) : vx_L C n d B U H := by
  obtain ⟨c, k, i, f, a, cell, h1, h2, h3, h4, h5, h6, h7, h8, h9, h10⟩ := h
  exact ⟨c, k, i, f, a, cell, h1, h2, h3, h4, h5, h6, h7, h8, h9, fun z => h10 (hAB _ z)⟩
theorem vx_L.word {C n d : String} {A : Nat → Prop} {s : State} {args : Array Value} (h : vx_L C n d A s s.heap) : (Cond.laysStatic C n d).before args s = true := by
  obtain ⟨c, k, i, f, a, cell, h1, h2, h3, h4, h5, h6, h7, h8, h9, -⟩ := h
  show (Cond.laysStatic C n d).holds args s none s [] = true
  exact Cond.laysStatic_of h1 h2 h3 h4 h5 h6 h7 h8 h9
/-- .. and what it holds: null or some reference -/
def vx_Zq (C n d : String) (A : Nat → Prop) (U : State) (H : Heap) : Prop := va_Zq C n d A U H ∧ vx_L C n d A U H
theorem vx_Zq.moved {C n d : String} {A : Nat → Prop} {u U : State} {H : Heap} (hvm : u.vm.Alike U.vm) (h : vx_Zq C n d A u H) : vx_Zq C n d A U H := ⟨va_Zq.moved hvm h.1, vx_L.moved hvm h.2⟩
theorem vx_Zq.kept {C n d : String} {A : Nat → Prop} {U : State} {H H1 : Heap} (h : vx_Zq C n d A U H) (hq : ∀ a : Nat, a < H.size → ¬ A a → H1[a]? = H[a]?) : vx_Zq C n d A U H1 := ⟨va_Zq.kept h.1 hq, vx_L.kept h.2 hq⟩
theorem vx_Zq.narrow {C n d : String} {A B : Nat → Prop} {U : State} {H : Heap} (h : vx_Zq C n d A U H) (hAB : ∀ q, B q → A q) : vx_Zq C n d B U H := ⟨va_Zq.narrow h.1 hAB, vx_L.narrow h.2 hAB⟩
theorem vx_Zqof {args : Array Value} {s : State} {C n d : String} {A : Nat → Prop} (hl : (Cond.laysStatic C n d).before args s = true) (hini : (Cond.initialized C).before args s = true) (h : (Cond.isRef (.static C n d)).before args s = true) (hA : ∀ a : Nat, a < s.heap.size → ¬ A a) : vx_Zq C n d A s s.heap := by
  refine ⟨va_Zqof hl hini h hA, ?_⟩
  obtain ⟨c, k, i, f, a, cell, h1, h2, h3, h4, h5, h6, h7, h8, h9⟩ := Cond.laysStatic_spec hl
  exact ⟨c, k, i, f, a, cell, h1, h2, h3, h4, h5, h6, h7, h8, h9, hA a (Array.getElem?_eq_some_iff.mp h5).1⟩
theorem vx_isRef {C n d : String} {v : Value} {A : Nat → Prop} {s : State} {args : Array Value} (h : va_Z C n d v A s s.heap) (hv : v.isRef = true) : (Cond.isRef (.static C n d)).before args s = true := by
  obtain ⟨cf, kf, fi, f, a, cell, h1, h2, h3, h4, h5, h6, h7, -⟩ := h
  have he : (Term.static C n d).eval args s none [] s = some v := by
    simp [Term.eval, State.fieldNamed?, h1, h2, h4, h5, h6, h7]
  simp only [Cond.before, Cond.holds, Cond.value, he]
  cases v <;> simp_all [Value.isRef]
theorem vx_isRefq {C n d : String} {A : Nat → Prop} {s : State} {args : Array Value} (h : va_Zq C n d A s s.heap) : (Cond.isRef (.static C n d)).before args s = true := by
  rcases h with h | ⟨t, h⟩
  · exact vx_isRef h rfl
  · exact vx_isRef h rfl
/-- the same frame, seen from here: as if the method were called anew in this heap -/
theorem vx_rebase {T : State} (X : Stand p l e R s m args below meth c T locs cells slots) {R' : Room} (hf : R'.frames ≤ R.frames) (hl : R'.locals ≤ R.locals) (hc : cells + R'.cells ≤ R.cells) (hs : slots + R'.slots ≤ R.slots) :
    Stand p l e R' ((T.setVm s.vm).setFrames (.invoking m args :: below)) m args below meth c T [] 0 0 := by
  have htop : (T.setVm s.vm).topJava?.isSome := X.here.top
  have hF : ((T.setVm s.vm).setFrames (.invoking m args :: below)).frames = .invoking m args :: below := State.frames_setFrames _ (State.cur_lt_of_top htop)
  obtain ⟨g₀, hg0⟩ := Option.isSome_iff_exists.mp htop
  obtain ⟨r, hr⟩ := State.topJava?_eq_some.mp hg0
  have hl9 : e.platform.stackLimits (T.setVm s.vm).me = e.platform.stackLimits s.me := X.limits
  have hb9 : (T.setVm s.vm).me.stackBytes = s.me.stackBytes := X.bytes
  refine ⟨X.admits, X.cas, X.clock, hF, ?_, X.hears, X.method, X.code, X.here, X.tail, X.warmed, ?_, ?_, ?_⟩
  · have h := X.room
    have hU : ((T.setVm s.vm).setFrames (.invoking m args :: below)).localsInUse = s.localsInUse := by
      rw [State.localsInUse_invoking hF (meth := meth) (c := c) X.method X.code, State.localsInUse_invoking X.frames X.method X.code]
    simp only [State.hasRoom, Bool.and_eq_true, decide_eq_true_eq] at h ⊢
    obtain ⟨⟨⟨⟨h1, h2, h3, h4, h5, h6⟩, h7⟩, h8⟩, h9⟩ := h
    rw [X.frames, List.length_cons] at h2 h3
    have q1 := X.heapSize
    have q2 := X.used
    simp only [hF, hU, List.length_cons, State.stackLimits_setFrames, State.stackBytes_setFrames, hl9, hb9]
    refine ⟨⟨⟨⟨by omega, by omega, by omega, by omega, by omega, h6⟩, ?_⟩, ?_⟩, X.book⟩
    · show T.heap.size + R'.cells ≤ e.platform.maxCells
      omega
    · show T.slotsUsed + R'.slots ≤ e.platform.maxSlots
      omega
  · rw [State.stackLimits_setFrames]; rfl
  · rw [State.stackBytes_setFrames]; rfl
  · refine ⟨?_, Nat.le_refl _, Nat.le_refl _, ?_, ?_, fun a c9 h9 => ⟨c9, h9, rfl, rfl, fun _ _ => rfl⟩⟩
    · obtain ⟨t, ht, -⟩ := State.frames_cons hr
      show T.setVm s.vm = { ((T.setVm s.vm).setFrames (.invoking m args :: below)).setFrames (T.setVm s.vm).frames with heap := T.heap, slotsUsed := T.slotsUsed }
      rw [State.setFrames_setFrames, State.setFrames_self ht]
      rfl
    · show T.slotsUsed = T.slotsUsed + ((T.heap.toList.drop T.heap.size).map (·.slots.size)).sum
      rw [List.drop_eq_nil_of_le (Nat.le_of_eq Array.length_toList)]
      rfl
    · show ((T.heap.toList.drop T.heap.size).map (·.slots.size)).sum ≤ 0
      rw [List.drop_eq_nil_of_le (Nat.le_of_eq Array.length_toList)]
      exact Nat.le_refl _
/-- 'throw new E()': new; dup; invokespecial; athrow -/
theorem vx_throw0 {cc : ByteArray} {pc : Nat} (hexec : p.tables.exec = Jvm.exec) (hb : c.code = cc) (hl : l.stackTraces = false) {own cls : String} {names : List String} {ik ic mc ms : Nat} {A : Nat → Prop}
    (hown : s.vm.findClass own = some m.cls) (hcls : Bundle.fit cls = true) (hnames : ∀ n ∈ names, Bundle.fit n = true)
    (hk : (Cond.classLink own ik cls).before args s = true) (hini : (Cond.initialized cls).before args s = true) (hat : ∀ w ∈ vx_at0 own ic cls names, w.before args s = true)
    (hgood : ∀ w ∈ Cond.classLink own ik cls :: Cond.initialized cls :: vx_at0 own ic cls names, vx_ot w = true)
    (hU : vx_Zq Bundle.tN "UNASSIGNED_STACK" Bundle.steD A s s.heap) (hN : vx_Zq Bundle.tN "SUPPRESSED_SENTINEL" Bundle.listD A s s.heap) (hS : va_S A s.heap H locs) (hsize : ls.size = c.maxLocals)
    (d0 : decode cc pc = .ok (.new ik, 3)) (d3 : decode cc (pc + 3) = .ok (.dup, 1)) (d4 : decode cc (pc + 4) = .ok (.invokespecial ic, 3)) (d7 : decode cc (pc + 7) = .ok (.athrow, 1))
    (hout : ∀ x ∈ c.exceptionTable.toList, covers x (pc + 7) = false)
    (hRframes : names.length + 3 < R.frames) (hRlocals : (rest.map fun v => v.category).sum + (13 * (names.length + 1) + 42) ≤ R.locals) (hRcells : cells + 1 ≤ R.cells) (hRslots : slots + 6 ≤ R.slots) (hlocks : meth.locks = false)
    (hx : ∀ t : State, s.vm.Alike t.vm → H.size ≤ t.heap.size → (∀ q : Nat, q < H.size → t.heap[q]? = H[q]?) → XC cls s t)
    (hf : ∀ z ∈ locs, free z.base) (hc : cells + 1 ≤ mc) (hs : slots + 6 ≤ ms) :
    W p l e R s m args below meth c H locs cells slots (vx_MQ below Qc XC args s mc ms free) (F0 m pc ls rest) := by
  intro T hT X
  have htr : e.platform.stackTraces = false := (show e.platform.stackTraces = l.stackTraces by rw [X.admits.platform]).trans hl
  have Y := vx_rebase X (R' := { frames := R.frames, locals := R.locals, cells := 1, slots := 6 }) (Nat.le_refl _) (Nat.le_refl _) hRcells hRslots
  obtain ⟨s', hA⟩ : ∃ z, z = (T.setVm s.vm).setFrames (.invoking m args :: below) := ⟨_, rfl⟩
  rw [← hA] at Y
  have hvm : s'.vm = s.vm := by rw [hA]; rfl
  have hhp : s'.heap = H := by rw [hA]; exact hT
  have hW0 : s.WarmedH s'.vm := by rw [hvm]; exact State.WarmedH.refl s
  have hat' : ∀ w ∈ vx_at0 own ic cls names, w.before args s' = true := fun w hw => vx_ot_at hW0 hvm.symm (hgood w (List.mem_cons_of_mem _ (List.mem_cons_of_mem _ hw))) (hat w hw)
  have hk' : (Cond.classLink own ik cls).before args s' = true := vx_ot_at hW0 hvm.symm (hgood _ List.mem_cons_self) hk
  have hini' : (Cond.initialized cls).before args s' = true := vx_ot_at hW0 hvm.symm (hgood _ (List.mem_cons_of_mem _ List.mem_cons_self)) hini
  have hU' : vx_Zq Bundle.tN "UNASSIGNED_STACK" Bundle.steD A s' s'.heap := by rw [hhp]; exact vx_Zq.moved hW0.alike (hU.kept hS.2.1)
  have hN' : vx_Zq Bundle.tN "SUPPRESSED_SENTINEL" Bundle.listD A s' s'.heap := by rw [hhp]; exact vx_Zq.moved hW0.alike (hN.kept hS.2.1)
  have h : ∀ w ∈ Bundle.ownAtoms0 own ic cls names, w.before args s' = true := vx_own hat' (vx_isRefq hU'.1) (vx_isRefq hN'.1) hU'.2.word hN'.2.word
  have hown' : s'.vm.findClass own = some m.cls := by rw [hvm]; exact hown
  have hins : (Cond.instantiable cls 6).before args s' = true := h _ (by simp [Bundle.ownAtoms0])
  obtain ⟨vm₁, cX, kX, hfX, hkX, -, -, X₁, st1⟩ := Y.newCold hexec (own := own) (C := cls) (index := ik) (n := 6) hown' hk' hins hini'
    (g := F0 m pc ls rest) rfl (by rw [hb]; exact d0) (Nat.le_refl _) (Nat.le_refl _)
  generalize hT1 : (T.setVm vm₁).pushCell { cls := cX, slots := kX.instanceTypes.map defaultValue, vm := .none } = T1 at X₁ st1
  have hcat : (Value.ref T.heap.size).category = 1 := rfl
  have hcellA : T1.heap[T.heap.size]? = some (freshCell cX kX) := by rw [← hT1]; exact State.heap_pushCell_size _ _
  have d3' : decode c.code (pc + 3) = .ok (.dup, 1) := by rw [hb]; exact d3
  obtain ⟨U, hsteps, hrun, hend, hW, hsame, ce, hce, hO⟩ := X₁.ctorThrow0 hexec htr (own := own) (cls := cls) (names := names) (ic := ic) hown' hcls hnames h (fun x hx => nomatch hx) hfX hkX hcellA (by rw [hhp, hT]; exact Nat.le_refl _)
    (g := { method := m, pc := pc + 4, locals := ls, stack := .ref T.heap.size :: .ref T.heap.size :: rest, locked := none }) rfl hsize rfl rfl (rest := rest) rfl
    (by rw [hb]; exact d4) (by rw [hb]; exact d7) hout hRframes (by simp only [List.map_cons, List.sum_cons, hcat]; omega) hlocks
  obtain ⟨f1, f2⟩ := vx_frame hsame
  rw [hhp] at f1 f2
  have hWs : s.WarmedH U.vm := State.WarmedH.trans hW0 hW
  have hcl : s.vm.findClass cls = some ce.cls := by
    have h9 := hO.cls
    rw [hvm] at h9
    exact h9
  have hall : s.sameButNew ({ U with vm := s.vm } : State) locs mc ms := by
    subst hA
    obtain ⟨e1, e2⟩ := hsame
    rw [State.setFrames_setFrames] at e1
    have h2 : (T.setVm s.vm).sameButNew ({ U with vm := s.vm } : State) [] (0 + 1) (0 + 6) := ⟨e1, e2⟩
    have h3 := X.same.trans h2
    rw [List.append_nil] at h3
    exact h3.mono hc hs
  refine ⟨U, ?_, .threw T.heap.size, hrun, hend, Or.inr ⟨T.heap.size, rfl, cls, ce, locs, hx U hWs.alike f1 (fun q hq => f2 q hq (fun z hz => nomatch hz)), hce, hO.vm, hcl, hWs, hall, hf⟩⟩
  refine st1 _ ?_
  show Steps p.tables e below (T1.setTop { method := m, pc := pc + 3, locals := ls, stack := .ref T.heap.size :: rest, locked := none }) _
  jvm_step X₁.here [X₁.here.top, hexec, d3', Value.category]
  exact hsteps
/-- 'throw new E("text")': new; dup; ldc; invokespecial; athrow -/
theorem vx_throwS {cc : ByteArray} {pc : Nat} (hexec : p.tables.exec = Jvm.exec) (hb : c.code = cc) (hl : l.stackTraces = false) {own cls text : String} {names : List String} {ik is ic mc ms sa : Nat} {A : Nat → Prop}
    (hown : s.vm.findClass own = some m.cls) (hcls : Bundle.fit cls = true) (hnames : ∀ n ∈ names, Bundle.fit n = true)
    (hk : (Cond.classLink own ik cls).before args s = true) (hini : (Cond.initialized cls).before args s = true) (hstr : vk_R own is text sa s) (hat : ∀ w ∈ vx_atS own ic cls names, w.before args s = true)
    (hgood : ∀ w ∈ Cond.classLink own ik cls :: Cond.initialized cls :: vx_atS own ic cls names, vx_ot w = true)
    (hU : vx_Zq Bundle.tN "UNASSIGNED_STACK" Bundle.steD A s s.heap) (hN : vx_Zq Bundle.tN "SUPPRESSED_SENTINEL" Bundle.listD A s s.heap) (hS : va_S A s.heap H locs) (hsize : ls.size = c.maxLocals)
    (d0 : decode cc pc = .ok (.new ik, 3)) (d3 : decode cc (pc + 3) = .ok (.dup, 1)) (d4 : decode cc (pc + 4) = .ok (.ldc is, 2)) (d6 : decode cc (pc + 6) = .ok (.invokespecial ic, 3)) (d9 : decode cc (pc + 9) = .ok (.athrow, 1))
    (hout : ∀ x ∈ c.exceptionTable.toList, covers x (pc + 9) = false)
    (hRframes : names.length + 3 < R.frames) (hRlocals : (rest.map fun v => v.category).sum + (13 * (names.length + 1) + 43) ≤ R.locals) (hRcells : cells + 1 ≤ R.cells) (hRslots : slots + 6 ≤ R.slots) (hlocks : meth.locks = false)
    (hx : ∀ t : State, s.vm.Alike t.vm → H.size ≤ t.heap.size → (∀ q : Nat, q < H.size → t.heap[q]? = H[q]?) → XC cls s t)
    (hf : ∀ z ∈ locs, free z.base) (hc : cells + 1 ≤ mc) (hs : slots + 6 ≤ ms) :
    W p l e R s m args below meth c H locs cells slots (vx_MQ below Qc XC args s mc ms free) (F0 m pc ls rest) := by
  intro T hT X
  have htr : e.platform.stackTraces = false := (show e.platform.stackTraces = l.stackTraces by rw [X.admits.platform]).trans hl
  have Y := vx_rebase X (R' := { frames := R.frames, locals := R.locals, cells := 1, slots := 6 }) (Nat.le_refl _) (Nat.le_refl _) hRcells hRslots
  obtain ⟨s', hA⟩ : ∃ z, z = (T.setVm s.vm).setFrames (.invoking m args :: below) := ⟨_, rfl⟩
  rw [← hA] at Y
  have hvm : s'.vm = s.vm := by rw [hA]; rfl
  have hhp : s'.heap = H := by rw [hA]; exact hT
  have hW0 : s.WarmedH s'.vm := by rw [hvm]; exact State.WarmedH.refl s
  have hat' : ∀ w ∈ vx_atS own ic cls names, w.before args s' = true := fun w hw => vx_ot_at hW0 hvm.symm (hgood w (List.mem_cons_of_mem _ (List.mem_cons_of_mem _ hw))) (hat w hw)
  have hk' : (Cond.classLink own ik cls).before args s' = true := vx_ot_at hW0 hvm.symm (hgood _ List.mem_cons_self) hk
  have hini' : (Cond.initialized cls).before args s' = true := vx_ot_at hW0 hvm.symm (hgood _ (List.mem_cons_of_mem _ List.mem_cons_self)) hini
  have hU' : vx_Zq Bundle.tN "UNASSIGNED_STACK" Bundle.steD A s' s'.heap := by rw [hhp]; exact vx_Zq.moved hW0.alike (hU.kept hS.2.1)
  have hN' : vx_Zq Bundle.tN "SUPPRESSED_SENTINEL" Bundle.listD A s' s'.heap := by rw [hhp]; exact vx_Zq.moved hW0.alike (hN.kept hS.2.1)
  have h : ∀ w ∈ Bundle.ownAtoms own ic cls names, w.before args s' = true := vx_own hat' (vx_isRefq hU'.1) (vx_isRefq hN'.1) hU'.2.word hN'.2.word
  have hown' : s'.vm.findClass own = some m.cls := by rw [hvm]; exact hown
  have hins : (Cond.instantiable cls 6).before args s' = true := h _ (by simp [Bundle.ownAtoms])
  obtain ⟨vm₁, cX, kX, hfX, hkX, -, -, X₁, st1⟩ := Y.newCold hexec (own := own) (C := cls) (index := ik) (n := 6) hown' hk' hins hini'
    (g := F0 m pc ls rest) rfl (by rw [hb]; exact d0) (Nat.le_refl _) (Nat.le_refl _)
  generalize hT1 : (T.setVm vm₁).pushCell { cls := cX, slots := kX.instanceTypes.map defaultValue, vm := .none } = T1 at X₁ st1
  have hcat : (Value.ref T.heap.size).category = 1 := rfl
  have hcellA : T1.heap[T.heap.size]? = some (freshCell cX kX) := by rw [← hT1]; exact State.heap_pushCell_size _ _
  have d3' : decode c.code (pc + 3) = .ok (.dup, 1) := by rw [hb]; exact d3
  have d4' : decode c.code (pc + 4) = .ok (.ldc is, 2) := by rw [hb]; exact d4
  have hstr' : vk_R own is text sa s' := vk_R.warm hW0 hstr
  obtain ⟨U, hsteps, hrun, hend, hW, hsame, ce, hce, hO⟩ := X₁.ctorThrowS hexec htr (own := own) (cls := cls) (names := names) (ic := ic) hown' hcls hnames h (fun x hx => nomatch hx) hfX hkX hcellA (by rw [hhp, hT]; exact Nat.le_refl _) (msg := .ref sa) rfl
    (g := { method := m, pc := pc + 6, locals := ls, stack := .ref sa :: .ref T.heap.size :: .ref T.heap.size :: rest, locked := none }) rfl hsize rfl rfl (rest := rest) rfl
    (by rw [hb]; exact d6) (by rw [hb]; exact d9) hout hRframes (by simp only [List.map_cons, List.sum_cons, hcat]; omega) hlocks
  obtain ⟨f1, f2⟩ := vx_frame hsame
  rw [hhp] at f1 f2
  have hWs : s.WarmedH U.vm := State.WarmedH.trans hW0 hW
  have hcl : s.vm.findClass cls = some ce.cls := by
    have h9 := hO.cls
    rw [hvm] at h9
    exact h9
  have hall : s.sameButNew ({ U with vm := s.vm } : State) locs mc ms := by
    subst hA
    obtain ⟨e1, e2⟩ := hsame
    rw [State.setFrames_setFrames] at e1
    have h2 : (T.setVm s.vm).sameButNew ({ U with vm := s.vm } : State) [] (0 + 1) (0 + 6) := ⟨e1, e2⟩
    have h3 := X.same.trans h2
    rw [List.append_nil] at h3
    exact h3.mono hc hs
  refine ⟨U, ?_, .threw T.heap.size, hrun, hend, Or.inr ⟨T.heap.size, rfl, cls, ce, locs, hx U hWs.alike f1 (fun q hq => f2 q hq (fun z hz => nomatch hz)), hce, hO.vm, hcl, hWs, hall, hf⟩⟩
  refine st1 _ ?_
  show Steps p.tables e below (T1.setTop { method := m, pc := pc + 3, locals := ls, stack := .ref T.heap.size :: rest, locked := none }) _
  jvm_step X₁.here [X₁.here.top, hexec, d3', Value.category]
  exact X₁.ldcString hexec (own := own) (text := text) (index := is) (a := sa) hown' hstr'.1 hstr'.2
    (g := { method := m, pc := pc + 4, locals := ls, stack := .ref T.heap.size :: .ref T.heap.size :: rest, locked := none }) rfl d4' _ hsteps
/-- 'throw new E("text")', the text by a wide index -/
theorem vx_throwSW {cc : ByteArray} {pc : Nat} (hexec : p.tables.exec = Jvm.exec) (hb : c.code = cc) (hl : l.stackTraces = false) {own cls text : String} {names : List String} {ik is ic mc ms sa : Nat} {A : Nat → Prop}
    (hown : s.vm.findClass own = some m.cls) (hcls : Bundle.fit cls = true) (hnames : ∀ n ∈ names, Bundle.fit n = true)
    (hk : (Cond.classLink own ik cls).before args s = true) (hini : (Cond.initialized cls).before args s = true) (hstr : vk_R own is text sa s) (hat : ∀ w ∈ vx_atS own ic cls names, w.before args s = true)
    (hgood : ∀ w ∈ Cond.classLink own ik cls :: Cond.initialized cls :: vx_atS own ic cls names, vx_ot w = true)
    (hU : vx_Zq Bundle.tN "UNASSIGNED_STACK" Bundle.steD A s s.heap) (hN : vx_Zq Bundle.tN "SUPPRESSED_SENTINEL" Bundle.listD A s s.heap) (hS : va_S A s.heap H locs) (hsize : ls.size = c.maxLocals)
    (d0 : decode cc pc = .ok (.new ik, 3)) (d3 : decode cc (pc + 3) = .ok (.dup, 1)) (d4 : decode cc (pc + 4) = .ok (.ldc_w is, 3)) (d7 : decode cc (pc + 7) = .ok (.invokespecial ic, 3)) (d10 : decode cc (pc + 10) = .ok (.athrow, 1))
    (hout : ∀ x ∈ c.exceptionTable.toList, covers x (pc + 10) = false)
    (hRframes : names.length + 3 < R.frames) (hRlocals : (rest.map fun v => v.category).sum + (13 * (names.length + 1) + 43) ≤ R.locals) (hRcells : cells + 1 ≤ R.cells) (hRslots : slots + 6 ≤ R.slots) (hlocks : meth.locks = false)
    (hx : ∀ t : State, s.vm.Alike t.vm → H.size ≤ t.heap.size → (∀ q : Nat, q < H.size → t.heap[q]? = H[q]?) → XC cls s t)
    (hf : ∀ z ∈ locs, free z.base) (hc : cells + 1 ≤ mc) (hs : slots + 6 ≤ ms) :
    W p l e R s m args below meth c H locs cells slots (vx_MQ below Qc XC args s mc ms free) (F0 m pc ls rest) := by
  intro T hT X
  have htr : e.platform.stackTraces = false := (show e.platform.stackTraces = l.stackTraces by rw [X.admits.platform]).trans hl
  have Y := vx_rebase X (R' := { frames := R.frames, locals := R.locals, cells := 1, slots := 6 }) (Nat.le_refl _) (Nat.le_refl _) hRcells hRslots
  obtain ⟨s', hA⟩ : ∃ z, z = (T.setVm s.vm).setFrames (.invoking m args :: below) := ⟨_, rfl⟩
  rw [← hA] at Y
  have hvm : s'.vm = s.vm := by rw [hA]; rfl
  have hhp : s'.heap = H := by rw [hA]; exact hT
  have hW0 : s.WarmedH s'.vm := by rw [hvm]; exact State.WarmedH.refl s
  have hat' : ∀ w ∈ vx_atS own ic cls names, w.before args s' = true := fun w hw => vx_ot_at hW0 hvm.symm (hgood w (List.mem_cons_of_mem _ (List.mem_cons_of_mem _ hw))) (hat w hw)
  have hk' : (Cond.classLink own ik cls).before args s' = true := vx_ot_at hW0 hvm.symm (hgood _ List.mem_cons_self) hk
  have hini' : (Cond.initialized cls).before args s' = true := vx_ot_at hW0 hvm.symm (hgood _ (List.mem_cons_of_mem _ List.mem_cons_self)) hini
  have hU' : vx_Zq Bundle.tN "UNASSIGNED_STACK" Bundle.steD A s' s'.heap := by rw [hhp]; exact vx_Zq.moved hW0.alike (hU.kept hS.2.1)
  have hN' : vx_Zq Bundle.tN "SUPPRESSED_SENTINEL" Bundle.listD A s' s'.heap := by rw [hhp]; exact vx_Zq.moved hW0.alike (hN.kept hS.2.1)
  have h : ∀ w ∈ Bundle.ownAtoms own ic cls names, w.before args s' = true := vx_own hat' (vx_isRefq hU'.1) (vx_isRefq hN'.1) hU'.2.word hN'.2.word
  have hown' : s'.vm.findClass own = some m.cls := by rw [hvm]; exact hown
  have hins : (Cond.instantiable cls 6).before args s' = true := h _ (by simp [Bundle.ownAtoms])
  obtain ⟨vm₁, cX, kX, hfX, hkX, -, -, X₁, st1⟩ := Y.newCold hexec (own := own) (C := cls) (index := ik) (n := 6) hown' hk' hins hini'
    (g := F0 m pc ls rest) rfl (by rw [hb]; exact d0) (Nat.le_refl _) (Nat.le_refl _)
  generalize hT1 : (T.setVm vm₁).pushCell { cls := cX, slots := kX.instanceTypes.map defaultValue, vm := .none } = T1 at X₁ st1
  have hcat : (Value.ref T.heap.size).category = 1 := rfl
  have hcellA : T1.heap[T.heap.size]? = some (freshCell cX kX) := by rw [← hT1]; exact State.heap_pushCell_size _ _
  have d3' : decode c.code (pc + 3) = .ok (.dup, 1) := by rw [hb]; exact d3
  have d4' : decode c.code (pc + 4) = .ok (.ldc_w is, 3) := by rw [hb]; exact d4
  have hstr' : vk_R own is text sa s' := vk_R.warm hW0 hstr
  obtain ⟨U, hsteps, hrun, hend, hW, hsame, ce, hce, hO⟩ := X₁.ctorThrowS hexec htr (own := own) (cls := cls) (names := names) (ic := ic) hown' hcls hnames h (fun x hx => nomatch hx) hfX hkX hcellA (by rw [hhp, hT]; exact Nat.le_refl _) (msg := .ref sa) rfl
    (g := { method := m, pc := pc + 7, locals := ls, stack := .ref sa :: .ref T.heap.size :: .ref T.heap.size :: rest, locked := none }) rfl hsize rfl rfl (rest := rest) rfl
    (by rw [hb]; exact d7) (by rw [hb]; exact d10) hout hRframes (by simp only [List.map_cons, List.sum_cons, hcat]; omega) hlocks
  obtain ⟨f1, f2⟩ := vx_frame hsame
  rw [hhp] at f1 f2
  have hWs : s.WarmedH U.vm := State.WarmedH.trans hW0 hW
  have hcl : s.vm.findClass cls = some ce.cls := by
    have h9 := hO.cls
    rw [hvm] at h9
    exact h9
  have hall : s.sameButNew ({ U with vm := s.vm } : State) locs mc ms := by
    subst hA
    obtain ⟨e1, e2⟩ := hsame
    rw [State.setFrames_setFrames] at e1
    have h2 : (T.setVm s.vm).sameButNew ({ U with vm := s.vm } : State) [] (0 + 1) (0 + 6) := ⟨e1, e2⟩
    have h3 := X.same.trans h2
    rw [List.append_nil] at h3
    exact h3.mono hc hs
  refine ⟨U, ?_, .threw T.heap.size, hrun, hend, Or.inr ⟨T.heap.size, rfl, cls, ce, locs, hx U hWs.alike f1 (fun q hq => f2 q hq (fun z hz => nomatch hz)), hce, hO.vm, hcl, hWs, hall, hf⟩⟩
  refine st1 _ ?_
  show Steps p.tables e below (T1.setTop { method := m, pc := pc + 3, locals := ls, stack := .ref T.heap.size :: rest, locked := none }) _
  jvm_step X₁.here [X₁.here.top, hexec, d3', Value.category]
  exact X₁.ldcStringW hexec (own := own) (text := text) (index := is) (a := sa) hown' hstr'.1 hstr'.2
    (g := { method := m, pc := pc + 4, locals := ls, stack := .ref T.heap.size :: .ref T.heap.size :: rest, locked := none }) rfl d4' _ hsteps
end Ends
section Bodies
variable {l : Launch}
theorem vx_ofW {y : MethodName} {ws ws' : List Cond} {rm : Room} {Pc : Array Value → State → Prop} {Qc : Array Value → State → Outcome → State → Prop} {XC : String → State → State → Prop} {mc ms : Nat} {free : Addr → Prop} {cc : ByteArray} {maxL : Nat} {ret : Option FieldType}
    (hy : plainName y.cls = true) (hw : ws = Cond.code y cc maxL ret :: ws')
    (body : ∀ p e s m args below meth c s₁, BodyLoose p l y (headSpec ws rm) cc maxL ret e s m args below meth c s₁ → c.maxLocals = maxL → (∀ x ∈ c.exceptionTable.toList, False) → Pc args s →
      W p l e (headSpec ws rm).room s m args below meth c s.heap [] 0 0 (vx_MQ below Qc XC args s mc ms free) (entryFrame m args maxL)) : vx_Met l y ws rm Pc Qc XC mc ms free := by
  refine MetFree.of_bodyS (code := cc) (maxLocals := maxL) (ret := ret) hy ?_ ?_
  · intro args s m h hn
    obtain ⟨meth, c, h1, h2, h3, h4, h5, h6, -, -⟩ := Cond.code_spec hn (atoms_spec (ws := ws) h _ (by rw [hw]; exact List.mem_cons_self))
    exact ⟨meth, c, h1, h2, h3, h4, h5, h6⟩
  · intro p e s m args below meth c s₁ B hml hP _
    have hh0 : s₁.heap = s.heap := by rw [B.state]; rfl
    have ht : ∀ x ∈ c.exceptionTable.toList, False := by
      obtain ⟨meth9, c9, h1, h2, -, -, -, -, h7, -⟩ := Cond.code_spec B.named (atoms_spec (ws := ws) B.pre _ (by rw [hw]; exact List.mem_cons_self))
      cases Option.some.inj (h1.symm.trans B.method)
      cases Option.some.inj (h2.symm.trans (Stand.of_body B).code)
      intro x hx
      rw [Array.isEmpty_iff.mp h7] at hx
      cases hx
    obtain ⟨t, a1, o, b1, b2, b3⟩ := body p e s m args below meth c s₁ B hml ht hP s₁ hh0 (Stand.of_body B)
    exact ⟨t, o, a1, b1, b2, b3⟩
/-- the table of a body with handlers -/
theorem vx_table {p : Program} {x y : MethodName} {S : Spec} {cc bytes : ByteArray} {maxL maxL' : Nat} {ret ret' : Option FieldType} {e : Env} {s s₁ : State} {m : MethodId} {args : Array Value} {below : List Frame} {meth : Method} {c : Code} {hh : List (Nat × Nat × Nat × Nat)}
    (B : BodyLoose p l y S cc maxL ret e s m args below meth c s₁) (h : (Cond.codeWith y bytes maxL' ret' hh).before args s = true) : c.exceptionTable.toList = tableOf hh := by
  obtain ⟨m9, meth9, c9, hn9, h1, h2, -, -, h6, -⟩ := Cond.codeWith_spec h
  cases Option.some.inj (hn9.symm.trans B.named)
  cases Option.some.inj (h1.symm.trans B.method)
  cases Option.some.inj (h2.symm.trans (Stand.of_body B).code)
  rw [← h6, table_eq]
end Bodies
end VXA
/-! ===== END ===== -/
/-! ===== BEGIN a static call of a method with an exception table ===== -/
section VXS
variable {p : Program} {l : Launch} {e : Env} {R : Room} {s : State} {m : MethodId} {args : Array Value} {below : List Frame} {meth : Method} {c : Code} {T : State} {H : Heap} {locs : List Loc} {cells slots : Nat}
abbrev vx_CSW (R : Room) (s : State) (args : Array Value) (own : String) (index : Nat) (y : MethodName) (bytes : ByteArray) (maxL : Nat) (ret : Option FieldType) (hh : List (Nat × Nat × Nat × Nat)) (ws : List Cond) (rm : Room) (mc ms n : Nat) : Prop :=
  (rm.cells = mc ∧ rm.slots = ms ∧ rm.frames + 1 ≤ R.frames ∧ 8 + (maxL + 11) + rm.locals ≤ R.locals ∧ (∀ w ∈ ws, ∀ (a' : Array Value) (U : State), s.WarmedH U.vm → w.before a' U = true) ∧ Cond.codeWith y bytes maxL ret hh ∈ ws) ∧
  (Cond.codeWith y bytes maxL ret hh).before args s = true ∧ (Cond.initialized y.cls).before args s = true ∧ (y.cls ≠ "java/lang/invoke/MethodHandle" ∧ y.cls ≠ "java/lang/invoke/VarHandle") ∧
  (∀ sig, parseMethodDescriptor y.desc = some sig → n = sig.parameters.length) ∧ (Cond.methodLink own index y).before args s = true ∧ (Cond.static y).before args s = true
theorem vx_cwSW {own : String} {index maxL mc ms : Nat} {y : MethodName} {bytes : ByteArray} {ret : Option FieldType} {hh : List (Nat × Nat × Nat × Nat)} {Ts ws ws' : List Cond} {rm : Room} (n : Nat) (ht : ∀ w ∈ Ts, w.before args s = true) (hT : GoodIn Ts (va_wsS own index y ws)) (hw : ws = Cond.codeWith y bytes maxL ret hh :: ws') (hrc : rm.cells = mc) (hrs : rm.slots = ms)
    (hd : y.cls ≠ "java/lang/invoke/MethodHandle" ∧ y.cls ≠ "java/lang/invoke/VarHandle" ∧ (parseMethodDescriptor y.desc).map (fun d => d.parameters.length) = some n) (hR : rm.frames + 1 ≤ R.frames ∧ 8 + (maxL + 11) + rm.locals ≤ R.locals) :
    vx_CSW R s args own index y bytes maxL ret hh ws rm mc ms n := by
  have ok : ∀ w ∈ va_wsS own index y ws, w.before args s = true := fun w h => ht w (hT w h).1
  have hG : GoodIn Ts ws := fun w h => hT w (by unfold va_wsS; exact List.mem_append_right _ h)
  have hc : Cond.codeWith y bytes maxL ret hh ∈ ws := by rw [hw]; exact List.mem_cons_self
  refine ⟨⟨hrc, hrs, hR.1, hR.2, pay_in ht hG, hc⟩, ht _ (hG _ hc).1, ok _ (by simp [va_wsS]), ⟨hd.1, hd.2.1⟩, fun sig h => ?_, ok _ (by simp [va_wsS]), ok _ (by simp [va_wsS])⟩
  have h2 := hd.2.2
  rw [h] at h2
  exact (Option.some.inj h2).symm
theorem vx_callSW (X : Stand p l e R s m args below meth c T locs cells slots) (hexec : p.tables.exec = Jvm.exec) {own : String} {index : Nat} {y : MethodName} {bytes : ByteArray} {maxL : Nat} {ret : Option FieldType} {hh : List (Nat × Nat × Nat × Nat)}
    (hown : s.vm.findClass own = some m.cls) (hlink : (Cond.methodLink own index y).before args s = true) (hstat : (Cond.static y).before args s = true) (hinit : (Cond.initialized y.cls).before args s = true)
    (hcode : (Cond.codeWith y bytes maxL ret hh).before args s = true) (hy : y.cls ≠ "java/lang/invoke/MethodHandle" ∧ y.cls ≠ "java/lang/invoke/VarHandle")
    {W9 : Nat} {Pre : Pt → Array Value → Prop} {Post : Pt → Array Value → Option Value → Pt → Prop} (hK : Back l R p e below s args y 3 W9 Pre Post)
    {g : JFrame} (hg : g.method = m) (hsize : g.locals.size = c.maxLocals) {argsL rest : List Value} (hlen : ∀ sig, parseMethodDescriptor y.desc = some sig → argsL.length = sig.parameters.length)
    (hstack : g.stack = argsL.reverse ++ rest) (hW : 2 * g.monitorRoom + (rest.map fun v => v.category).sum ≤ W9) (hdg : decode c.code g.pc = .ok (.invokestatic index, 3))
    (hpre : ∀ vm₁, s.WarmedH vm₁ → Pre ⟨T.setVm vm₁, locs, cells, slots⟩ argsL.toArray) :
    ∃ (v : Option Value) (vm₁ : Vm) (B : Pt), s.WarmedH vm₁ ∧ Stand p l e R s m args below meth c B.U B.locs B.cells B.slots ∧ Post ⟨T.setVm vm₁, locs, cells, slots⟩ argsL.toArray v B ∧
      ∀ target, Steps p.tables e below (B.U.setTop { g with pc := g.pc + 3, stack := v.toList ++ rest }) target → Steps p.tables e below (T.setTop g) target := by
  obtain ⟨mk, methM, cM, hnamed, hmethM, -, -, -, -, -, -, hsigM⟩ := Cond.codeWith_spec hcode
  have hstatic : methM.isStatic = true := Cond.static_spec hnamed hmethM hstat
  obtain ⟨kP, hkP, -⟩ := className_of_methodNamed hnamed
  have hinitP : kP.init = .initialized := Cond.initialized_spec (findClass_of_methodNamed hnamed) hkP hinit
  obtain ⟨vm₁, X₁, hstep₁⟩ := X.invokestatic hexec hown hlink hnamed hmethM hstatic hkP hinitP hy (g := g) hg (argsL := argsL) (rest := rest) (hlen _ hsigM) hstack hdg
  obtain ⟨v, B, X', hpost, hsteps⟩ := hK m meth c ⟨T.setVm vm₁, locs, cells, slots⟩ { g with stack := rest } (.invokestatic index) mk argsL.toArray X₁ hg hsize hdg hW (X₁.named hnamed) (hpre vm₁ X₁.warmed)
  exact ⟨v, vm₁, B, X₁.warmed, X', hpost, fun target h => hstep₁ _ fun acts => by rw [doInvoke_state]; exact hsteps.trans h⟩
theorem vx_runSW {y : MethodName} {bytes cc : ByteArray} {maxL nL mc ms n index : Nat} {ret : Option FieldType} {hh : List (Nat × Nat × Nat × Nat)} {ws : List Cond} {rm : Room} {Pc : Array Value → State → Prop} {Qc : Array Value → State → Outcome → State → Prop} {free : Addr → Prop} {Ts : List Cond} {own : String} {As rest : List Value} {g : JFrame}
    (S : CallFix p m c cc nL s args Ts own) (hM : Met l y ws rm Pc Qc mc ms free) (cw : vx_CSW R s args own index y bytes maxL ret hh ws rm mc ms n) (hp : PreS s H Pc As)
    (hg : g.method = m) (hn : As.length = n) (hsize : g.locals.size = nL) (hstack : g.stack = As.reverse ++ rest) (hW : 2 * g.monitorRoom + (rest.map fun v => v.category).sum ≤ 8) (hdg : decode cc g.pc = .ok (.invokestatic index, 3)) (hf : cells + mc ≤ R.cells ∧ slots + ms ≤ R.slots) :
    va_Run p l e R s m args below meth c H locs cells slots mc ms g rest (Qc As.toArray) (free) := by
  obtain ⟨⟨hrc, hrs, hfr, hlo, hws, hcw⟩, hcode, hini, hy, hlen, hl, hstt⟩ := cw
  have hK : Back l R p e below s args y 3 8 (PreOf R mc ms Pc) (PostOf Qc mc ms free) := va_backW (hh := hh) (bytes := bytes) (maxL := maxL) (ret := ret) hM hp.1 hrc hrs hfr hlo hws hcw (fun a' U hW => word_at hW (Or.inl (by first | rfl | simp [Cond.onTables, Cond.keeps, Cond.steady])) hini)
  obtain ⟨hx, hb, hml, ho, -⟩ := S
  intro T hT X
  obtain ⟨v, vm₁, ⟨U', l2, c2, s2⟩, hW₁, X', ⟨g', mk, t, L, e1, e2, hq, h1, hL, h2, h3⟩, st⟩ := vx_callSW X hx (hh := hh) (bytes := bytes) (maxL := maxL) (ret := ret) ho hl hstt hini hcode hy hK hg (hsize.trans hml.symm) (argsL := As) (rest := rest) (fun sig h => hn.trans (hlen sig h)) hstack hW (by rw [hb]; exact hdg)
    (fun vm₁ hW₁ => ⟨hf.1, hf.2, hp.2 (T.setVm vm₁) hT hW₁⟩)
  dsimp only [Pt.U, Pt.locs, Pt.cells, Pt.slots] at X' e1 e2 h1 h2 h3 st
  subst h1; subst h2; subst h3
  exact ⟨v, (T.setVm vm₁).calling g' mk As.toArray, t, U', L, hT, X', hL, e1, e2, hq, st⟩
/-- not caught here, past rows that name other classes: it goes on to the caller -/
theorem vx_outP {p : Program} {l : Launch} {e : Env} {R : Room} {s : State} {m : MethodId} {args : Array Value} {below : List Frame} {meth : Method} {c : Code} {H : Heap} {locs : List Loc} {cells slots : Nat} {free : Addr → Prop} {ls : Array Slot} {rest : List Value} {Qc : Array Value → State → Outcome → State → Prop} {XC : String → State → State → Prop}
    {pc : Nat} {own E : String} {ce : Cell} {q : Addr} {mc ms : Nat} (hown : s.vm.findClass own = some m.cls) (hlocks : meth.locks = false)
    (hpass : ∀ z ∈ c.exceptionTable.toList, covers z pc = false ∨ (z.catchType ≠ 0 ∧ ∃ nm : String, (Cond.classLink own z.catchType nm).before args s = true ∧ va_Nc E nm s)) (hcell : H[q]? = some ce) (hv : ce.vm = .none) (hcl : s.vm.findClass E = some ce.cls)
    (hx : ∀ t : State, t.heap = H → s.vm.Alike t.vm → XC E s t) (hf : ∀ z ∈ locs, free z.base) (hc : cells ≤ mc) (hs : slots ≤ ms) :
    vx_W p l e R s m args below meth c H locs cells slots (vx_MQ below Qc XC args s mc ms free) (F0 m pc ls rest) q := by
  intro T hT X
  have hpl : e.platform.magicAccessors = ({} : Platform).magicAccessors := by rw [X.admits.platform]
  obtain ⟨vm', hW', X', st⟩ := X.outThrough hlocks q (g := F0 m pc ls rest) rfl rfl rfl (cell := ce) (by rw [hT]; exact hcell) (by rw [hv]; rfl)
    (by obtain ⟨k9, h9, -⟩ := Vm.findClass_spec hcl; exact ⟨k9, h9⟩) (fun z hz => by
      rcases hpass z hz with h | ⟨hz0, nm, hl1, hn1⟩
      · exact Or.inl h
      · obtain ⟨c6, hc6, hcl6⟩ := Cond.classLink_spec hown hl1 e.platform hpl
        obtain ⟨a8, b8, h1, h2, h3⟩ := hn1
        cases Option.some.inj (h1.symm.trans hcl)
        cases Option.some.inj (h2.symm.trans hc6)
        exact Or.inr ⟨hz0, _, hcl6, h3⟩)
  obtain ⟨g₀, hfr⟩ := X'.frames_eq
  have hcell9 : ((T.setVm vm').setFrames (.throwing q :: below)).heap[q]? = some ce := by
    show T.heap[q]? = some ce
    rw [hT]; exact hcell
  have hend : Ended ((T.setVm vm').setFrames (.throwing q :: below)) below (.threw q) := State.frames_setFrames _ (State.cur_lt_of_frames hfr)
  refine ⟨(T.setVm vm').setFrames (.throwing q :: below), ?_, .threw q, X'.here.running, hend, Or.inr ⟨q, rfl, E, ce, locs, hx _ hT (X'.ends _).1.alike, hcell9, hv, hcl, (X'.ends _).1, (X'.ends _).2.mono hc hs, hf⟩⟩
  rw [X.pushThrowing_eq]
  exact st
/-- a thing of a world lies in the heap -/
theorem vx_lt {D : va_G} {cl : List vw_C} {ws : va_W} {H1 : Heap} (h : va_P D cl ws H1) {k : Nat} {q : Nat × va_E} (hk : ws[k]? = some q) : q.1 < H1.size := (h k q hk).lt
end VXS
/-! ===== END ===== -/
/-! ===== BEGIN methods with a table of their own: called by a name, returning or throwing ===== -/
section VXH
/-! vx_backW, vx_callVX, vx_callSX, vx_callVW, vx_runVW, vx_runVX, vx_runSX, vx_ofWH follow the same proofs as their sisters above (Free/Laws.lean, Shelf42/LK1.lean); vx_outP calls Shelf42/NT130.lean (outThrough). -/
section
variable {l : Launch} {R : Room} {p : Program} {e : Env} {below : List Frame} {s : State} {sargs : Array Value} {y : MethodName} {len W9 : Nat}
theorem vx_backW {ws : List Cond} {rm : Room} {Pc : Array Value → State → Prop} {Qc : Array Value → State → Outcome → State → Prop} {XC : String → State → State → Prop} {mc ms : Nat} {free : Addr → Prop} {bytes : ByteArray} {maxL : Nat} {ret : Option FieldType} {hh : List (Nat × Nat × Nat × Nat)}
    (hM : vx_Met l y ws rm Pc Qc XC mc ms free) (hblind : FrameBlind Pc) (hrc : rm.cells = mc) (hrs : rm.slots = ms)
    (hframes : rm.frames + 1 ≤ R.frames) (hlocals : W9 + (maxL + 11) + rm.locals ≤ R.locals)
    (hws : ∀ w ∈ ws, ∀ a' U, s.WarmedH U.vm → w.before a' U = true) (hcode : Cond.codeWith y bytes maxL ret hh ∈ ws) (hinit : ∀ a' U, s.WarmedH U.vm → (Cond.initialized y.cls).before a' U = true) :
    vx_Back l R p e below s sargs y len W9 (PreOf R mc ms Pc) (PostOf Qc mc ms free) (vx_Post XC mc ms free) := by
  intro m meth c A g ig mk a X hg hsize hdg hW hn hp
  have h1 : (headSpec ws rm).pre.before a A.U = true := atoms_intro fun w hw => hws w hw _ _ X.warmed
  have h2 : (Cond.codeWith y bytes maxL ret hh).before a A.U = true := hws _ hcode _ _ X.warmed
  have h3 : (Cond.initialized y.cls).before a A.U = true := hinit _ _ X.warmed
  have h4 : A.cells + (headSpec ws rm).room.cells ≤ R.cells := by rw [show (headSpec ws rm).room.cells = mc from hrc]; exact hp.1
  have h5 : A.slots + (headSpec ws rm).room.slots ≤ R.slots := by rw [show (headSpec ws rm).room.slots = ms from hrs]; exact hp.2.1
  have hPc : Pc a (A.U.calling g mk a) := hblind _ _ _ _ hp.2.2
  obtain ⟨U, Ls, c0, s0⟩ := A
  dsimp only [Pt.U, Pt.locs, Pt.cells, Pt.slots] at h1 h2 h3 h4 h5 X hn hPc ⊢
  obtain ⟨m9, methY, cY, hn9, hmY, hcY, -, hlY, -⟩ := Cond.codeWith_spec h2
  cases Option.some.inj (hn9.symm.trans hn)
  obtain ⟨kY, hkY, -⟩ := className_of_methodNamed hn
  have hinitY : kY.init = .initialized := Cond.initialized_spec (findClass_of_methodNamed hn) hkY h3
  have h : At U g.method c below := by rw [hg]; exact X.here
  have hlocals9 : W9 + (maxL + 11) + (headSpec ws rm).room.locals ≤ R.locals := hlocals
  have happ : (headSpec ws rm).appliesLoose y e.platform (U.calling g mk a) = true :=
    Spec.appliesLoose_calling (g := g) h hdg hn hkY hinitY
      (X.room_calling (g := g) (R' := (headSpec ws rm).room) hsize hmY hcY hframes (by rw [hlY]; omega) h4 h5) h1
  obtain ⟨mid, hmid⟩ := h.above
  have hfr : (U.setTop g).frames = (.java g :: mid) ++ below := by rw [State.frames_setTop' g h.top, hmid]; rfl
  obtain ⟨o, s₂, hsteps, -, hend, hq⟩ := Steps.callFree hM p X.admits X.cas X.clock (acts := []) hfr happ hPc trivial
  have hq' : vx_Q Qc XC mc ms free a (U.calling g mk a) o s₂ := hq
  rw [State.frames_setTop' g h.top] at hend
  obtain ⟨g₀, hg0⟩ := Option.isSome_iff_exists.mp h.top
  obtain ⟨r, hr⟩ := State.topJava?_eq_some.mp hg0
  have hr' : (({ U with heap := s₂.heap, slotsUsed := s₂.slotsUsed } : State).setVm s₂.vm).frames = .java g₀ :: r := hr
  rcases hq' with ⟨hqc, L, hfe, hL⟩ | ⟨q, rfl, E, ce, L, hx, hce, hcv, hcl, hW₂, hsm, hL⟩
  · obtain ⟨⟨v, rfl⟩, hW₂, e2, q2, q3, q4, q5, q6⟩ := id hfe
    have e3 : s₂ = ({ (U.calling g mk a).setFrames s₂.frames with heap := s₂.heap, slotsUsed := s₂.slotsUsed } : State).setVm s₂.vm := by
      have : s₂ = ({ s₂ with vm := (U.calling g mk a).vm } : State).setVm s₂.vm := rfl
      rw [e2] at this
      exact this
    obtain ⟨c₂, i₂, len₂, hc₂, hd₂, hf₂⟩ := hend
    have hW' : U.WarmedH s₂.vm := hW₂
    have hcc : c₂ = c := by
      have h1 : s₂.code? g.method = U.code? g.method := by
        rw [State.code?_eq, State.code?_eq, hW'.alike.method?]
      exact Option.some.inj (hc₂.symm.trans (h1.trans h.code))
    subst hcc
    have hlen : len₂ = len := by rw [hdg] at hd₂; cases hd₂; rfl
    subst hlen
    have hs₂ : s₂ = (({ U with heap := s₂.heap, slotsUsed := s₂.slotsUsed } : State).setVm s₂.vm).setTop { g with pc := g.pc + len₂, stack := v.toList ++ g.stack } := by
      refine e3.trans ?_
      rw [hf₂, State.calling_eq h.top, State.setFrames_setFrames, State.setTop_of_frames _ hr', hr]
      rfl
    have hsame : U.sameButNew ({ U with heap := s₂.heap, slotsUsed := s₂.slotsUsed } : State) L mc ms := by
      refine ⟨?_, q2, q3, q4, q5, q6⟩
      obtain ⟨t, ht, -⟩ := State.frames_cons hr
      show ({ U with heap := s₂.heap, slotsUsed := s₂.slotsUsed } : State) = { U.setFrames U.frames with heap := s₂.heap, slotsUsed := s₂.slotsUsed }
      rw [State.setFrames_self ht]
    subst hg
    refine Or.inl ⟨v, ⟨(({ U with heap := s₂.heap, slotsUsed := s₂.slotsUsed } : State).setVm s₂.vm), Ls ++ L, c0 + mc, s0 + ms⟩,
      ⟨X.admits, X.cas, X.clock, X.frames, X.room, X.hears, X.method, X.code, (X.here.setHeapUsed s₂.heap s₂.slotsUsed).setVm hW'.alike, X.tail, State.WarmedH.trans X.warmed hW', X.limits, X.bytes, X.same.trans (hsame.setVm s.vm)⟩,
      ⟨g, mk, s₂, L, rfl, rfl, hqc, rfl, hL, rfl, rfl⟩, ?_⟩
    show Steps p.tables e below _ ((({ U with heap := s₂.heap, slotsUsed := s₂.slotsUsed } : State).setVm s₂.vm).setTop { g with pc := g.pc + len₂, stack := v.toList ++ g.stack })
    rw [← hs₂]
    exact hsteps
  · obtain ⟨e2, q2, q3, q4, q5, q6⟩ := id hsm
    have e3 : s₂ = ({ (U.calling g mk a).setFrames s₂.frames with heap := s₂.heap, slotsUsed := s₂.slotsUsed } : State).setVm s₂.vm := by
      have : s₂ = ({ s₂ with vm := (U.calling g mk a).vm } : State).setVm s₂.vm := rfl
      rw [e2] at this
      exact this
    have hf₂ : s₂.frames = .throwing q :: .java g :: U.frames.tail := hend
    have hW' : U.WarmedH s₂.vm := hW₂
    have hs₂ : s₂ = ((({ U with heap := s₂.heap, slotsUsed := s₂.slotsUsed } : State).setVm s₂.vm).setTop g).pushFrame (.throwing q) := by
      refine e3.trans ?_
      rw [hf₂, State.calling_eq h.top, State.setFrames_setFrames, State.pushFrame, State.frames_setTop _ hr', State.setTop_of_frames _ hr', State.setFrames_setFrames, hr]
      rfl
    have hsame : U.sameButNew ({ U with heap := s₂.heap, slotsUsed := s₂.slotsUsed } : State) L mc ms := by
      refine ⟨?_, q2, q3, q4, q5, q6⟩
      obtain ⟨t, ht, -⟩ := State.frames_cons hr
      show ({ U with heap := s₂.heap, slotsUsed := s₂.slotsUsed } : State) = { U.setFrames U.frames with heap := s₂.heap, slotsUsed := s₂.slotsUsed }
      rw [State.setFrames_self ht]
    subst hg
    refine Or.inr ⟨q, ⟨(({ U with heap := s₂.heap, slotsUsed := s₂.slotsUsed } : State).setVm s₂.vm), Ls ++ L, c0 + mc, s0 + ms⟩,
      ⟨X.admits, X.cas, X.clock, X.frames, X.room, X.hears, X.method, X.code, (X.here.setHeapUsed s₂.heap s₂.slotsUsed).setVm hW'.alike, X.tail, State.WarmedH.trans X.warmed hW', X.limits, X.bytes, X.same.trans (hsame.setVm s.vm)⟩,
      ⟨g, mk, s₂, L, E, ce, rfl, rfl, hx, hce, hcv, hcl, rfl, hL, rfl, rfl⟩, ?_⟩
    show Steps p.tables e below _ (((({ U with heap := s₂.heap, slotsUsed := s₂.slotsUsed } : State).setVm s₂.vm).setTop g).pushFrame (.throwing q))
    rw [← hs₂]
    exact hsteps
end
variable {p : Program} {l : Launch} {e : Env} {R : Room} {s : State} {m : MethodId} {args : Array Value} {below : List Frame} {meth : Method} {c : Code} {T : State} {H : Heap} {locs : List Loc} {cells slots : Nat}
theorem vx_callVX (X : Stand p l e R s m args below meth c T locs cells slots) (hexec : p.tables.exec = Jvm.exec) {own C : String} {index : Nat} {y : MethodName} {bytes : ByteArray} {maxL : Nat} {ret : Option FieldType} {hh : List (Nat × Nat × Nat × Nat)}
    (hown : s.vm.findClass own = some m.cls) (hlink : (Cond.methodLink own index y).before args s = true) (hinst : (Cond.instanceMethod y).before args s = true) (hsel : (Cond.selects C y y).before args s = true)
    (hcode : (Cond.codeWith y bytes maxL ret hh).before args s = true) (hy : y.cls ≠ "java/lang/invoke/MethodHandle" ∧ y.cls ≠ "java/lang/invoke/VarHandle")
    {W9 : Nat} {Pre : Pt → Array Value → Prop} {Post : Pt → Array Value → Option Value → Pt → Prop} {PostX : Pt → Array Value → Addr → Pt → Prop} (hK : vx_Back l R p e below s args y 3 W9 Pre Post PostX)
    {b : Addr} {cellB : Cell} (hcell : T.heap[b]? = some cellB) (hobj : cellB.vm.isStatics = false) (hcls : s.vm.findClass C = some cellB.cls)
    {g : JFrame} (hg : g.method = m) (hsize : g.locals.size = c.maxLocals) {argsL rest : List Value} (hlen : ∀ sig, parseMethodDescriptor y.desc = some sig → argsL.length = sig.parameters.length)
    (hstack : g.stack = argsL.reverse ++ .ref b :: rest) (hW : 2 * g.monitorRoom + (rest.map fun v => v.category).sum ≤ W9) (hdg : decode c.code g.pc = .ok (.invokevirtual index, 3))
    (hpre : ∀ vm₁, s.WarmedH vm₁ → Pre ⟨T.setVm vm₁, locs, cells, slots⟩ (Value.ref b :: argsL).toArray) :
    (∃ (v : Option Value) (vm₁ : Vm) (B : Pt), s.WarmedH vm₁ ∧ Stand p l e R s m args below meth c B.U B.locs B.cells B.slots ∧ Post ⟨T.setVm vm₁, locs, cells, slots⟩ (Value.ref b :: argsL).toArray v B ∧
      ∀ target, Steps p.tables e below (B.U.setTop { g with pc := g.pc + 3, stack := v.toList ++ rest }) target → Steps p.tables e below (T.setTop g) target) ∨
    (∃ (q : Addr) (vm₁ : Vm) (B : Pt), s.WarmedH vm₁ ∧ Stand p l e R s m args below meth c B.U B.locs B.cells B.slots ∧ PostX ⟨T.setVm vm₁, locs, cells, slots⟩ (Value.ref b :: argsL).toArray q B ∧
      Steps p.tables e below (T.setTop g) ((B.U.setTop { g with stack := rest }).pushFrame (.throwing q))) := by
  obtain ⟨mk, methM, hnamed, hmethM, hstM, habM⟩ := Cond.instanceMethod_spec hinst
  obtain ⟨m8, methM', cM, hn8, hmethM', -, -, -, -, -, -, hsigM⟩ := Cond.codeWith_spec hcode
  cases Option.some.inj (hn8.symm.trans hnamed)
  cases hmethM.symm.trans hmethM'
  obtain ⟨c2, r2, m2, q1, q2, q3, q4, kP, hkP, hkPi⟩ := Cond.selects_spec hsel
  cases hcls.symm.trans q1
  cases (State.methodFound?_of_named hnamed hy).symm.trans q2
  cases hnamed.symm.trans q3
  have hselP : selectMethod e.platform s.vm cellB.cls mk = .method mk := by rw [Launch.admits_selectMethod X.admits]; exact q4
  obtain ⟨vm₁, X₁, hstep₁⟩ := X.invokevirtual hexec hown hlink hnamed hmethM hstM hkP hkPi hy (a := b) (cell := cellB) hcell
    (fun z h => by rw [h] at hobj; cases hobj) hselP hmethM habM hkP hkPi (g := g) hg (argsL := argsL) (rest := rest) (hlen _ hsigM) hstack hdg
  rcases hK m meth c ⟨T.setVm vm₁, locs, cells, slots⟩ { g with stack := rest } (.invokevirtual index) mk (Value.ref b :: argsL).toArray X₁ hg hsize hdg hW (X₁.named hnamed) (hpre vm₁ X₁.warmed) with ⟨v, B, X', hpost, hsteps⟩ | ⟨q, B, X', hpost, hsteps⟩
  · exact Or.inl ⟨v, vm₁, B, X₁.warmed, X', hpost, fun target h => hstep₁ _ fun acts => by rw [doInvoke_state]; exact hsteps.trans h⟩
  · exact Or.inr ⟨q, vm₁, B, X₁.warmed, X', hpost, hstep₁ _ fun acts => by rw [doInvoke_state]; exact hsteps⟩
theorem vx_callSX (X : Stand p l e R s m args below meth c T locs cells slots) (hexec : p.tables.exec = Jvm.exec) {own : String} {index : Nat} {y : MethodName} {bytes : ByteArray} {maxL : Nat} {ret : Option FieldType} {hh : List (Nat × Nat × Nat × Nat)}
    (hown : s.vm.findClass own = some m.cls) (hlink : (Cond.methodLink own index y).before args s = true) (hstat : (Cond.static y).before args s = true) (hinit : (Cond.initialized y.cls).before args s = true)
    (hcode : (Cond.codeWith y bytes maxL ret hh).before args s = true) (hy : y.cls ≠ "java/lang/invoke/MethodHandle" ∧ y.cls ≠ "java/lang/invoke/VarHandle")
    {W9 : Nat} {Pre : Pt → Array Value → Prop} {Post : Pt → Array Value → Option Value → Pt → Prop} {PostX : Pt → Array Value → Addr → Pt → Prop} (hK : vx_Back l R p e below s args y 3 W9 Pre Post PostX)
    {g : JFrame} (hg : g.method = m) (hsize : g.locals.size = c.maxLocals) {argsL rest : List Value} (hlen : ∀ sig, parseMethodDescriptor y.desc = some sig → argsL.length = sig.parameters.length)
    (hstack : g.stack = argsL.reverse ++ rest) (hW : 2 * g.monitorRoom + (rest.map fun v => v.category).sum ≤ W9) (hdg : decode c.code g.pc = .ok (.invokestatic index, 3))
    (hpre : ∀ vm₁, s.WarmedH vm₁ → Pre ⟨T.setVm vm₁, locs, cells, slots⟩ argsL.toArray) :
    (∃ (v : Option Value) (vm₁ : Vm) (B : Pt), s.WarmedH vm₁ ∧ Stand p l e R s m args below meth c B.U B.locs B.cells B.slots ∧ Post ⟨T.setVm vm₁, locs, cells, slots⟩ argsL.toArray v B ∧
      ∀ target, Steps p.tables e below (B.U.setTop { g with pc := g.pc + 3, stack := v.toList ++ rest }) target → Steps p.tables e below (T.setTop g) target) ∨
    (∃ (q : Addr) (vm₁ : Vm) (B : Pt), s.WarmedH vm₁ ∧ Stand p l e R s m args below meth c B.U B.locs B.cells B.slots ∧ PostX ⟨T.setVm vm₁, locs, cells, slots⟩ argsL.toArray q B ∧
      Steps p.tables e below (T.setTop g) ((B.U.setTop { g with stack := rest }).pushFrame (.throwing q))) := by
  obtain ⟨mk, methM, cM, hnamed, hmethM, -, -, -, -, -, -, hsigM⟩ := Cond.codeWith_spec hcode
  have hstatic : methM.isStatic = true := Cond.static_spec hnamed hmethM hstat
  obtain ⟨kP, hkP, -⟩ := className_of_methodNamed hnamed
  have hinitP : kP.init = .initialized := Cond.initialized_spec (findClass_of_methodNamed hnamed) hkP hinit
  obtain ⟨vm₁, X₁, hstep₁⟩ := X.invokestatic hexec hown hlink hnamed hmethM hstatic hkP hinitP hy (g := g) hg (argsL := argsL) (rest := rest) (hlen _ hsigM) hstack hdg
  rcases hK m meth c ⟨T.setVm vm₁, locs, cells, slots⟩ { g with stack := rest } (.invokestatic index) mk argsL.toArray X₁ hg hsize hdg hW (X₁.named hnamed) (hpre vm₁ X₁.warmed) with ⟨v, B, X', hpost, hsteps⟩ | ⟨q, B, X', hpost, hsteps⟩
  · exact Or.inl ⟨v, vm₁, B, X₁.warmed, X', hpost, fun target h => hstep₁ _ fun acts => by rw [doInvoke_state]; exact hsteps.trans h⟩
  · exact Or.inr ⟨q, vm₁, B, X₁.warmed, X', hpost, hstep₁ _ fun acts => by rw [doInvoke_state]; exact hsteps⟩
theorem vx_callVW (X : Stand p l e R s m args below meth c T locs cells slots) (hexec : p.tables.exec = Jvm.exec) {own C : String} {index : Nat} {y : MethodName} {bytes : ByteArray} {maxL : Nat} {ret : Option FieldType} {hh : List (Nat × Nat × Nat × Nat)}
    (hown : s.vm.findClass own = some m.cls) (hlink : (Cond.methodLink own index y).before args s = true) (hinst : (Cond.instanceMethod y).before args s = true) (hsel : (Cond.selects C y y).before args s = true)
    (hcode : (Cond.codeWith y bytes maxL ret hh).before args s = true) (hy : y.cls ≠ "java/lang/invoke/MethodHandle" ∧ y.cls ≠ "java/lang/invoke/VarHandle")
    {W9 : Nat} {Pre : Pt → Array Value → Prop} {Post : Pt → Array Value → Option Value → Pt → Prop} (hK : Back l R p e below s args y 3 W9 Pre Post)
    {b : Addr} {cellB : Cell} (hcell : T.heap[b]? = some cellB) (hobj : cellB.vm.isStatics = false) (hcls : s.vm.findClass C = some cellB.cls)
    {g : JFrame} (hg : g.method = m) (hsize : g.locals.size = c.maxLocals) {argsL rest : List Value} (hlen : ∀ sig, parseMethodDescriptor y.desc = some sig → argsL.length = sig.parameters.length)
    (hstack : g.stack = argsL.reverse ++ .ref b :: rest) (hW : 2 * g.monitorRoom + (rest.map fun v => v.category).sum ≤ W9) (hdg : decode c.code g.pc = .ok (.invokevirtual index, 3))
    (hpre : ∀ vm₁, s.WarmedH vm₁ → Pre ⟨T.setVm vm₁, locs, cells, slots⟩ (Value.ref b :: argsL).toArray) :
    ∃ (v : Option Value) (vm₁ : Vm) (B : Pt), s.WarmedH vm₁ ∧ Stand p l e R s m args below meth c B.U B.locs B.cells B.slots ∧ Post ⟨T.setVm vm₁, locs, cells, slots⟩ (Value.ref b :: argsL).toArray v B ∧
      ∀ target, Steps p.tables e below (B.U.setTop { g with pc := g.pc + 3, stack := v.toList ++ rest }) target → Steps p.tables e below (T.setTop g) target := by
  obtain ⟨mk, methM, hnamed, hmethM, hstM, habM⟩ := Cond.instanceMethod_spec hinst
  obtain ⟨m8, methM', cM, hn8, hmethM', -, -, -, -, -, -, hsigM⟩ := Cond.codeWith_spec hcode
  cases Option.some.inj (hn8.symm.trans hnamed)
  cases hmethM.symm.trans hmethM'
  obtain ⟨c2, r2, m2, q1, q2, q3, q4, kP, hkP, hkPi⟩ := Cond.selects_spec hsel
  cases hcls.symm.trans q1
  cases (State.methodFound?_of_named hnamed hy).symm.trans q2
  cases hnamed.symm.trans q3
  have hselP : selectMethod e.platform s.vm cellB.cls mk = .method mk := by rw [Launch.admits_selectMethod X.admits]; exact q4
  obtain ⟨vm₁, X₁, hstep₁⟩ := X.invokevirtual hexec hown hlink hnamed hmethM hstM hkP hkPi hy (a := b) (cell := cellB) hcell
    (fun z h => by rw [h] at hobj; cases hobj) hselP hmethM habM hkP hkPi (g := g) hg (argsL := argsL) (rest := rest) (hlen _ hsigM) hstack hdg
  obtain ⟨v, B, X', hpost, hsteps⟩ := hK m meth c ⟨T.setVm vm₁, locs, cells, slots⟩ { g with stack := rest } (.invokevirtual index) mk (Value.ref b :: argsL).toArray X₁ hg hsize hdg hW (X₁.named hnamed) (hpre vm₁ X₁.warmed)
  exact ⟨v, vm₁, B, X₁.warmed, X', hpost, fun target h => hstep₁ _ fun acts => by rw [doInvoke_state]; exact hsteps.trans h⟩
abbrev vx_CVW (R : Room) (s : State) (args : Array Value) (own C : String) (index : Nat) (y : MethodName) (bytes : ByteArray) (maxL : Nat) (ret : Option FieldType) (hh : List (Nat × Nat × Nat × Nat)) (ws : List Cond) (rm : Room) (mc ms n : Nat) : Prop :=
  (rm.cells = mc ∧ rm.slots = ms ∧ rm.frames + 1 ≤ R.frames ∧ 8 + (maxL + 11) + rm.locals ≤ R.locals ∧ (∀ w ∈ ws, ∀ (a' : Array Value) (U : State), s.WarmedH U.vm → w.before a' U = true) ∧ Cond.codeWith y bytes maxL ret hh ∈ ws) ∧
  (Cond.codeWith y bytes maxL ret hh).before args s = true ∧ (Cond.initialized y.cls).before args s = true ∧ (y.cls ≠ "java/lang/invoke/MethodHandle" ∧ y.cls ≠ "java/lang/invoke/VarHandle") ∧
  (∀ sig, parseMethodDescriptor y.desc = some sig → n = sig.parameters.length) ∧ (Cond.methodLink own index y).before args s = true ∧ (Cond.instanceMethod y).before args s = true ∧ (Cond.selects C y y).before args s = true
theorem vx_cwVW {own C : String} {index maxL mc ms : Nat} {y : MethodName} {bytes : ByteArray} {ret : Option FieldType} {hh : List (Nat × Nat × Nat × Nat)} {Ts ws ws' : List Cond} {rm : Room} (n : Nat) (ht : ∀ w ∈ Ts, w.before args s = true) (hT : GoodIn Ts (wsV own index C y ws)) (hw : ws = Cond.codeWith y bytes maxL ret hh :: ws') (hrc : rm.cells = mc) (hrs : rm.slots = ms)
    (hd : y.cls = C ∧ y.cls ≠ "java/lang/invoke/MethodHandle" ∧ y.cls ≠ "java/lang/invoke/VarHandle" ∧ (parseMethodDescriptor y.desc).map (fun d => d.parameters.length) = some n) (hR : rm.frames + 1 ≤ R.frames ∧ 8 + (maxL + 11) + rm.locals ≤ R.locals) :
    vx_CVW R s args own C index y bytes maxL ret hh ws rm mc ms n := by
  obtain ⟨hC, hd⟩ := hd
  subst hC
  have ok : ∀ w ∈ wsV own index y.cls y ws, w.before args s = true := fun w h => ht w (hT w h).1
  have hG : GoodIn Ts ws := fun w h => hT w (by unfold wsV; exact List.mem_append_right _ h)
  have hc : Cond.codeWith y bytes maxL ret hh ∈ ws := by rw [hw]; exact List.mem_cons_self
  refine ⟨⟨hrc, hrs, hR.1, hR.2, pay_in ht hG, hc⟩, ht _ (hG _ hc).1, ok _ (by simp [wsV]), ⟨hd.1, hd.2.1⟩, fun sig h => ?_, ok _ (by simp [wsV]), ok _ (by simp [wsV]), ok _ (by simp [wsV])⟩
  have h2 := hd.2.2
  rw [h] at h2
  exact (Option.some.inj h2).symm
theorem vx_runVW {y : MethodName} {bytes cc : ByteArray} {maxL nL mc ms n index : Nat} {ret : Option FieldType} {hh : List (Nat × Nat × Nat × Nat)} {ws : List Cond} {rm : Room} {Pc : Array Value → State → Prop} {Qc : Array Value → State → Outcome → State → Prop} {free : Addr → Prop} {Ts : List Cond} {own C : String} {b : Addr} {As rest : List Value} {g : JFrame}
    (S : CallFix p m c cc nL s args Ts own) (hM : Met l y ws rm Pc Qc mc ms free) (cw : vx_CVW R s args own C index y bytes maxL ret hh ws rm mc ms n) (hp : PreV s H C b Pc As)
    (hg : g.method = m) (hn : As.length = n) (hsize : g.locals.size = nL) (hstack : g.stack = As.reverse ++ .ref b :: rest) (hW : 2 * g.monitorRoom + (rest.map fun v => v.category).sum ≤ 8) (hdg : decode cc g.pc = .ok (.invokevirtual index, 3)) (hf : cells + mc ≤ R.cells ∧ slots + ms ≤ R.slots) :
    va_Run p l e R s m args below meth c H locs cells slots mc ms g rest (Qc (Value.ref b :: As).toArray) free := by
  obtain ⟨⟨hrc, hrs, hfr, hlo, hws, hcw⟩, hcode, hini, hy, hlen, hl, hin, hse⟩ := cw
  have hK : Back l R p e below s args y 3 8 (PreOf R mc ms Pc) (PostOf Qc mc ms free) := va_backW (hh := hh) (bytes := bytes) (maxL := maxL) (ret := ret) hM hp.1 hrc hrs hfr hlo hws hcw (fun a' U hW => word_at hW (Or.inl (by first | rfl | simp [Cond.onTables, Cond.keeps, Cond.steady])) hini)
  obtain ⟨hx, hb, hml, ho, -⟩ := S
  obtain ⟨-, ⟨cellB, hcB, hoB, hclB⟩, hPc⟩ := hp
  intro T hT X
  obtain ⟨v, vm₁, ⟨U', l2, c2, s2⟩, hW₁, X', ⟨g', mk, t, L, e1, e2, hq, h1, hL, h2, h3⟩, st⟩ := vx_callVW X hx (C := C) (hh := hh) (bytes := bytes) (maxL := maxL) (ret := ret) ho hl hin hse hcode hy hK (by rw [hT]; exact hcB) hoB hclB hg (hsize.trans hml.symm) (argsL := As) (rest := rest) (fun sig h => hn.trans (hlen sig h)) hstack hW (by rw [hb]; exact hdg)
    (fun vm₁ hW₁ => ⟨hf.1, hf.2, hPc (T.setVm vm₁) hT hW₁⟩)
  dsimp only [Pt.U, Pt.locs, Pt.cells, Pt.slots] at X' e1 e2 h1 h2 h3 st
  subst h1; subst h2; subst h3
  exact ⟨v, (T.setVm vm₁).calling g' mk (Value.ref b :: As).toArray, t, U', L, hT, X', hL, e1, e2, hq, st⟩
section
variable {y : MethodName} {bytes cc : ByteArray} {maxL nL mc ms n index : Nat} {ret : Option FieldType} {ws : List Cond} {rm : Room} {Pc : Array Value → State → Prop} {Qc : Array Value → State → Outcome → State → Prop} {XC : String → State → State → Prop} {free : Addr → Prop} {Ts : List Cond} {own C : String} {b : Addr} {As rest : List Value} {g : JFrame}
theorem vx_runVX {hh : List (Nat × Nat × Nat × Nat)} (S : CallFix p m c cc nL s args Ts own) (hM : vx_Met l y ws rm Pc Qc XC mc ms free) (cw : vx_CVW R s args own C index y bytes maxL ret hh ws rm mc ms n) (hp : PreV s H C b Pc As)
    (hg : g.method = m) (hn : As.length = n) (hsize : g.locals.size = nL) (hstack : g.stack = As.reverse ++ .ref b :: rest) (hW : 2 * g.monitorRoom + (rest.map fun v => v.category).sum ≤ 8) (hdg : decode cc g.pc = .ok (.invokevirtual index, 3)) (hf : cells + mc ≤ R.cells ∧ slots + ms ≤ R.slots) :
    vx_Run p l e R s m args below meth c H locs cells slots mc ms g rest (Qc (Value.ref b :: As).toArray) XC free := by
  obtain ⟨⟨hrc, hrs, hfr, hlo, hws, hcw⟩, hcode, hini, hy, hlen, hl, hin, hse⟩ := cw
  have hK : vx_Back l R p e below s args y 3 8 (PreOf R mc ms Pc) (PostOf Qc mc ms free) (vx_Post XC mc ms free) := vx_backW (hh := hh) (bytes := bytes) (maxL := maxL) (ret := ret) hM hp.1 hrc hrs hfr hlo hws hcw (fun a' U hW => word_at hW (Or.inl (by first | rfl | simp [Cond.onTables, Cond.keeps, Cond.steady])) hini)
  obtain ⟨hx, hb, hml, ho, -⟩ := S
  obtain ⟨-, ⟨cellB, hcB, hoB, hclB⟩, hPc⟩ := hp
  intro T hT X
  rcases vx_callVX X hx (C := C) (hh := hh) (bytes := bytes) (maxL := maxL) (ret := ret) ho hl hin hse hcode hy hK (by rw [hT]; exact hcB) hoB hclB hg (hsize.trans hml.symm) (argsL := As) (rest := rest) (fun sig h => hn.trans (hlen sig h)) hstack hW (by rw [hb]; exact hdg)
    (fun vm₁ hW₁ => ⟨hf.1, hf.2, hPc (T.setVm vm₁) hT hW₁⟩) with ⟨v, vm₁, ⟨U', l2, c2, s2⟩, hW₁, X', ⟨g', mk, t, L, e1, e2, hq, h1, hL, h2, h3⟩, st⟩ | ⟨q, vm₁, ⟨U', l2, c2, s2⟩, hW₁, X', ⟨g', mk, t, L, E, ce, e1, e2, hq, hce, hcv, hcl, h1, hL, h2, h3⟩, st⟩
  · dsimp only [Pt.U, Pt.locs, Pt.cells, Pt.slots] at X' e1 e2 h1 h2 h3 st
    subst h1; subst h2; subst h3
    exact Or.inl ⟨v, (T.setVm vm₁).calling g' mk (Value.ref b :: As).toArray, t, U', L, hT, X', hL, e1, e2, hq, st⟩
  · dsimp only [Pt.U, Pt.locs, Pt.cells, Pt.slots] at X' e1 e2 h1 h2 h3 st hcl
    subst h1; subst h2; subst h3
    exact Or.inr ⟨q, (T.setVm vm₁).calling g' mk (Value.ref b :: As).toArray, t, U', L, E, ce, hT, X', hL, e1, e2, hq, hce, hcv, vx_cls hW₁ hcl, st⟩
theorem vx_runSX {hh : List (Nat × Nat × Nat × Nat)} (S : CallFix p m c cc nL s args Ts own) (hM : vx_Met l y ws rm Pc Qc XC mc ms free) (cw : vx_CSW R s args own index y bytes maxL ret hh ws rm mc ms n) (hp : PreS s H Pc As)
    (hg : g.method = m) (hn : As.length = n) (hsize : g.locals.size = nL) (hstack : g.stack = As.reverse ++ rest) (hW : 2 * g.monitorRoom + (rest.map fun v => v.category).sum ≤ 8) (hdg : decode cc g.pc = .ok (.invokestatic index, 3)) (hf : cells + mc ≤ R.cells ∧ slots + ms ≤ R.slots) :
    vx_Run p l e R s m args below meth c H locs cells slots mc ms g rest (Qc As.toArray) XC free := by
  obtain ⟨⟨hrc, hrs, hfr, hlo, hws, hcw⟩, hcode, hini, hy, hlen, hl, hstt⟩ := cw
  have hK : vx_Back l R p e below s args y 3 8 (PreOf R mc ms Pc) (PostOf Qc mc ms free) (vx_Post XC mc ms free) := vx_backW (hh := hh) (bytes := bytes) (maxL := maxL) (ret := ret) hM hp.1 hrc hrs hfr hlo hws hcw (fun a' U hW => word_at hW (Or.inl (by first | rfl | simp [Cond.onTables, Cond.keeps, Cond.steady])) hini)
  obtain ⟨hx, hb, hml, ho, -⟩ := S
  intro T hT X
  rcases vx_callSX X hx (hh := hh) (bytes := bytes) (maxL := maxL) (ret := ret) ho hl hstt hini hcode hy hK hg (hsize.trans hml.symm) (argsL := As) (rest := rest) (fun sig h => hn.trans (hlen sig h)) hstack hW (by rw [hb]; exact hdg)
    (fun vm₁ hW₁ => ⟨hf.1, hf.2, hp.2 (T.setVm vm₁) hT hW₁⟩) with ⟨v, vm₁, ⟨U', l2, c2, s2⟩, hW₁, X', ⟨g', mk, t, L, e1, e2, hq, h1, hL, h2, h3⟩, st⟩ | ⟨q, vm₁, ⟨U', l2, c2, s2⟩, hW₁, X', ⟨g', mk, t, L, E, ce, e1, e2, hq, hce, hcv, hcl, h1, hL, h2, h3⟩, st⟩
  · dsimp only [Pt.U, Pt.locs, Pt.cells, Pt.slots] at X' e1 e2 h1 h2 h3 st
    subst h1; subst h2; subst h3
    exact Or.inl ⟨v, (T.setVm vm₁).calling g' mk As.toArray, t, U', L, hT, X', hL, e1, e2, hq, st⟩
  · dsimp only [Pt.U, Pt.locs, Pt.cells, Pt.slots] at X' e1 e2 h1 h2 h3 st hcl
    subst h1; subst h2; subst h3
    exact Or.inr ⟨q, (T.setVm vm₁).calling g' mk As.toArray, t, U', L, E, ce, hT, X', hL, e1, e2, hq, hce, hcv, vx_cls hW₁ hcl, st⟩
end
end VXH
theorem vx_ofWH {l : Launch} {y : MethodName} {ws ws' : List Cond} {rm : Room} {Pc : Array Value → State → Prop} {Qc : Array Value → State → Outcome → State → Prop} {XC : String → State → State → Prop} {mc ms : Nat} {free : Addr → Prop} {cc : ByteArray} {maxL : Nat} {ret : Option FieldType} {hh : List (Nat × Nat × Nat × Nat)}
    (hy : plainName y.cls = true) (hw : ws = Cond.codeWith y cc maxL ret hh :: ws')
    (body : ∀ p e s m args below meth c s₁, BodyLoose p l y (headSpec ws rm) cc maxL ret e s m args below meth c s₁ → c.maxLocals = maxL → Pc args s →
      W p l e (headSpec ws rm).room s m args below meth c s.heap [] 0 0 (vx_MQ below Qc XC args s mc ms free) (entryFrame m args maxL)) : vx_Met l y ws rm Pc Qc XC mc ms free := by
  refine MetFree.of_bodyS (code := cc) (maxLocals := maxL) (ret := ret) hy ?_ ?_
  · intro args s m h hn
    obtain ⟨m9, meth, c, hn9, h1, h2, h3, h4, -, h5, h6, -⟩ := Cond.codeWith_spec (atoms_spec (ws := ws) h _ (by rw [hw]; exact List.mem_cons_self))
    cases hn.symm.trans hn9
    exact ⟨meth, c, h1, h2, h3, h4, h5, h6⟩
  · intro p e s m args below meth c s₁ B hml hP _
    have hh0 : s₁.heap = s.heap := by rw [B.state]; rfl
    obtain ⟨t, a1, o, b1, b2, b3⟩ := body p e s m args below meth c s₁ B hml hP s₁ hh0 (Stand.of_body B)
    exact ⟨t, o, a1, b1, b2, b3⟩
/-! ===== END ===== -/
end
section
/-! ===== BEGIN printed: names, fields, word lists, decode rows ===== -/
def RX0 : String := "GloveCutters"
def TX0 : u_T := fun k => match k with
  | 0 => ("GloveCutters", "skins", "I", false)
  | 1 => ("GloveCutters", "skinColour", "[I", true)
  | 2 => ("GloveCutters", "skinPieces", "[I", true)
  | 3 => ("GloveCutters", "skinCells", "[[I", true)
  | 4 => ("GloveCutters", "pieces", "I", false)
  | 5 => ("GloveCutters", "pieceSkin", "[I", true)
  | 6 => ("GloveCutters", "pieceKind", "[I", true)
  | 7 => ("GloveCutters", "pieceWhere", "[I", true)
  | 8 => ("GloveCutters", "pieceThin", "[I", true)
  | 9 => ("GloveCutters", "sewn", "I", false)
  | 10 => ("GloveCutters", "pairColour", "[I", true)
  | 11 => ("GloveCutters", "pairTrankSkin", "[I", true)
  | 12 => ("GloveCutters", "pairSkins", "[I", true)
  | 13 => ("GloveCutters", "pairThin", "[I", true)
  | 14 => ("GloveCutters", "pairRipped", "[Z", true)
  | _ => ("GloveCutters", "trialCells", "[I", true)
def tyX0 : Nat → FieldType := fun k => match k with
  | 0 => .int
  | 1 => .array .int
  | 2 => .array .int
  | 3 => .array (.array .int)
  | 4 => .int
  | 5 => .array .int
  | 6 => .array .int
  | 7 => .array .int
  | 8 => .array .int
  | 9 => .int
  | 10 => .array .int
  | 11 => .array .int
  | 12 => .array .int
  | 13 => .array .int
  | 14 => .array .boolean
  | _ => .array .int
abbrev wsX00 : List Cond := u_ws RX0 TX0 16
theorem nmX0 : ∀ a, a < 16 → ∀ b, b < 16 → a ≠ b → (TX0 a).2.1 ≠ (TX0 b).2.1 := by decide +kernel
theorem tyX0_ok : ∀ k, k < 16 → parseFieldDescriptor (TX0 k).2.2.1 = some (tyX0 k) := by decide +kernel
abbrev cX0_init : ByteArray := prog_1_method_1_code
def yX0_init : MethodName := ⟨RX0, "<init>", "()V"⟩
abbrev cX0_lay : ByteArray := prog_1_method_2_code
def yX0_lay : MethodName := ⟨RX0, "lay", "(I)I"⟩
abbrev cX0_mark : ByteArray := prog_1_method_3_code
def yX0_mark : MethodName := ⟨RX0, "mark", "(IIIIII)I"⟩
abbrev cX0_cell : ByteArray := prog_1_method_4_code
def yX0_cell : MethodName := ⟨RX0, "cell", "(III)I"⟩
abbrev cX0_skin : ByteArray := prog_1_method_5_code
def yX0_skin : MethodName := ⟨RX0, "skin", "(II)I"⟩
abbrev cX0_cut : ByteArray := prog_1_method_6_code
def yX0_cut : MethodName := ⟨RX0, "cut", "(IIZII)I"⟩
abbrev cX0_place : ByteArray := prog_1_method_7_code
def yX0_place : MethodName := ⟨RX0, "place", "(IIZ)I"⟩
abbrev cX0_piece : ByteArray := prog_1_method_8_code
def yX0_piece : MethodName := ⟨RX0, "piece", "(II)I"⟩
abbrev cX0_sew : ByteArray := prog_1_method_9_code
def yX0_sew : MethodName := ⟨RX0, "sew", "(I)I"⟩
abbrev cX0_rip : ByteArray := prog_1_method_10_code
def yX0_rip : MethodName := ⟨RX0, "rip", "(I)I"⟩
abbrev cX0_pair : ByteArray := prog_1_method_11_code
def yX0_pair : MethodName := ⟨RX0, "pair", "(II)I"⟩
abbrev cX0_count : ByteArray := prog_1_method_12_code
def yX0_count : MethodName := ⟨RX0, "count", "(I)I"⟩
abbrev cX0_gives : ByteArray := prog_1_method_13_code
def yX0_gives : MethodName := ⟨RX0, "gives", "(IIZ)I"⟩
abbrev cX0_best : ByteArray := prog_1_method_14_code
def yX0_best : MethodName := ⟨RX0, "best", "(IZ)I"⟩
abbrev cX0_lacks : ByteArray := prog_1_method_15_code
def yX0_lacks : MethodName := ⟨RX0, "lacks", "(II)I"⟩
abbrev cX0_pairs : ByteArray := prog_1_method_16_code
def yX0_pairs : MethodName := ⟨RX0, "pairs", "(I)I"⟩
abbrev cX0_share : ByteArray := prog_1_method_17_code
def yX0_share : MethodName := ⟨RX0, "share", "()D"⟩
abbrev cX0_digest : ByteArray := prog_1_method_18_code
def yX0_digest : MethodName := ⟨RX0, "digest", "()J"⟩
abbrev cX0_digestSkin : ByteArray := prog_1_method_19_code
def yX0_digestSkin : MethodName := ⟨RX0, "digestSkin", "(JI)J"⟩
abbrev cX0_needSkin : ByteArray := prog_1_method_20_code
def yX0_needSkin : MethodName := ⟨RX0, "needSkin", "(I)V"⟩
abbrev cX0_needPair : ByteArray := prog_1_method_21_code
def yX0_needPair : MethodName := ⟨RX0, "needPair", "(I)V"⟩
abbrev cX0_needCell : ByteArray := prog_1_method_22_code
def yX0_needCell : MethodName := ⟨RX0, "needCell", "(II)V"⟩
abbrev cX0_needWhat : ByteArray := prog_1_method_23_code
def yX0_needWhat : MethodName := ⟨RX0, "needWhat", "(II)V"⟩
abbrev cX0_needColour : ByteArray := prog_1_method_24_code
def yX0_needColour : MethodName := ⟨RX0, "needColour", "(I)V"⟩
abbrev cX0_needKind : ByteArray := prog_1_method_25_code
def yX0_needKind : MethodName := ⟨RX0, "needKind", "(I)V"⟩
abbrev cX0_tellSkin : ByteArray := prog_1_method_26_code
def yX0_tellSkin : MethodName := ⟨RX0, "tellSkin", "(II)I"⟩
abbrev cX0_tellPiece : ByteArray := prog_1_method_27_code
def yX0_tellPiece : MethodName := ⟨RX0, "tellPiece", "(II)I"⟩
abbrev cX0_tellPair : ByteArray := prog_1_method_28_code
def yX0_tellPair : MethodName := ⟨RX0, "tellPair", "(II)I"⟩
abbrev cX0_tellCount : ByteArray := prog_1_method_29_code
def yX0_tellCount : MethodName := ⟨RX0, "tellCount", "(I)I"⟩
abbrev cX0_piecesAt : ByteArray := prog_1_method_30_code
def yX0_piecesAt : MethodName := ⟨RX0, "piecesAt", "(I)I"⟩
abbrev cX0_pairsInUse : ByteArray := prog_1_method_31_code
def yX0_pairsInUse : MethodName := ⟨RX0, "pairsInUse", "()I"⟩
abbrev cX0_tallySkin : ByteArray := prog_1_method_32_code
def yX0_tallySkin : MethodName := ⟨RX0, "tallySkin", "(II)I"⟩
abbrev cX0_tally : ByteArray := prog_1_method_33_code
def yX0_tally : MethodName := ⟨RX0, "tally", "([IIIIII)I"⟩
abbrev cX0_paint : ByteArray := prog_1_method_34_code
def yX0_paint : MethodName := ⟨RX0, "paint", "([IIIIII)V"⟩
abbrev cX0_wideOf : ByteArray := prog_1_method_35_code
def yX0_wideOf : MethodName := ⟨RX0, "wideOf", "(IZ)I"⟩
abbrev cX0_highOf : ByteArray := prog_1_method_36_code
def yX0_highOf : MethodName := ⟨RX0, "highOf", "(IZ)I"⟩
abbrev cX0_fits : ByteArray := prog_1_method_37_code
def yX0_fits : MethodName := ⟨RX0, "fits", "([IIZII)Z"⟩
abbrev cX0_firstFit : ByteArray := prog_1_method_38_code
def yX0_firstFit : MethodName := ⟨RX0, "firstFit", "([IIZI)I"⟩
abbrev cX0_givenBy : ByteArray := prog_1_method_39_code
def yX0_givenBy : MethodName := ⟨RX0, "givenBy", "(IIZ)I"⟩
abbrev cX0_isFreeOfColour : ByteArray := prog_1_method_40_code
def yX0_isFreeOfColour : MethodName := ⟨RX0, "isFreeOfColour", "(III)Z"⟩
abbrev cX0_freeOfColour : ByteArray := prog_1_method_41_code
def yX0_freeOfColour : MethodName := ⟨RX0, "freeOfColour", "(II)I"⟩
abbrev cX0_freeTranks : ByteArray := prog_1_method_42_code
def yX0_freeTranks : MethodName := ⟨RX0, "freeTranks", "(I)I"⟩
abbrev cX0_mostTranksOfOneSkin : ByteArray := prog_1_method_43_code
def yX0_mostTranksOfOneSkin : MethodName := ⟨RX0, "mostTranksOfOneSkin", "(I)I"⟩
abbrev cX0_pairsFrom : ByteArray := prog_1_method_44_code
def yX0_pairsFrom : MethodName := ⟨RX0, "pairsFrom", "(II)I"⟩
abbrev cX0_trankPairs : ByteArray := prog_1_method_45_code
def yX0_trankPairs : MethodName := ⟨RX0, "trankPairs", "(I)I"⟩
abbrev cX0_lacking : ByteArray := prog_1_method_46_code
def yX0_lacking : MethodName := ⟨RX0, "lacking", "(II)I"⟩
abbrev cX0_firstSkinWithTranks : ByteArray := prog_1_method_47_code
def yX0_firstSkinWithTranks : MethodName := ⟨RX0, "firstSkinWithTranks", "(I)I"⟩
abbrev cX0_enterPair : ByteArray := prog_1_method_48_code
def yX0_enterPair : MethodName := ⟨RX0, "enterPair", "(I)V"⟩
def RX1 : String := "GloveCuttersModel"
def TX1 : u_T := fun k => match k with
  | 0 => ("GloveCuttersModel", "thrown", "I", false)
  | 1 => ("GloveCuttersModel", "skins", "I", false)
  | 2 => ("GloveCuttersModel", "colour", "[I", true)
  | 3 => ("GloveCuttersModel", "cells", "[I", true)
  | 4 => ("GloveCuttersModel", "pieces", "I", false)
  | 5 => ("GloveCuttersModel", "skinOf", "[I", true)
  | 6 => ("GloveCuttersModel", "kindOf", "[I", true)
  | 7 => ("GloveCuttersModel", "pairOf", "[I", true)
  | 8 => ("GloveCuttersModel", "thinOf", "[I", true)
  | 9 => ("GloveCuttersModel", "pairs", "I", false)
  | 10 => ("GloveCuttersModel", "book", "[I", true)
  | _ => ("GloveCuttersModel", "trial", "[I", true)
def tyX1 : Nat → FieldType := fun k => match k with
  | 0 => .int
  | 1 => .int
  | 2 => .array .int
  | 3 => .array .int
  | 4 => .int
  | 5 => .array .int
  | 6 => .array .int
  | 7 => .array .int
  | 8 => .array .int
  | 9 => .int
  | 10 => .array .int
  | _ => .array .int
abbrev wsX10 : List Cond := u_ws RX1 TX1 12
theorem nmX1 : ∀ a, a < 12 → ∀ b, b < 12 → a ≠ b → (TX1 a).2.1 ≠ (TX1 b).2.1 := by decide +kernel
theorem tyX1_ok : ∀ k, k < 12 → parseFieldDescriptor (TX1 k).2.2.1 = some (tyX1 k) := by decide +kernel
abbrev cX1_init : ByteArray := prog_3_method_1_code
def yX1_init : MethodName := ⟨RX1, "<init>", "()V"⟩
abbrev cX1_thrown : ByteArray := prog_3_method_2_code
def yX1_thrown : MethodName := ⟨RX1, "thrown", "()I"⟩
abbrev cX1_no : ByteArray := prog_3_method_3_code
def yX1_no : MethodName := ⟨RX1, "no", "(I)I"⟩
abbrev cX1_isIn : ByteArray := prog_3_method_4_code
def yX1_isIn : MethodName := ⟨RX1, "isIn", "(III)Z"⟩
abbrev cX1_isSkin : ByteArray := prog_3_method_5_code
def yX1_isSkin : MethodName := ⟨RX1, "isSkin", "(I)Z"⟩
abbrev cX1_isKind : ByteArray := prog_3_method_6_code
def yX1_isKind : MethodName := ⟨RX1, "isKind", "(I)Z"⟩
abbrev cX1_isColour : ByteArray := prog_3_method_7_code
def yX1_isColour : MethodName := ⟨RX1, "isColour", "(I)Z"⟩
abbrev cX1_isCell : ByteArray := prog_3_method_8_code
def yX1_isCell : MethodName := ⟨RX1, "isCell", "(III)Z"⟩
abbrev cX1_lay : ByteArray := prog_3_method_9_code
def yX1_lay : MethodName := ⟨RX1, "lay", "(I)I"⟩
abbrev cX1_many : ByteArray := prog_3_method_10_code
def yX1_many : MethodName := ⟨RX1, "many", "([IIIII)I"⟩
abbrev cX1_fill : ByteArray := prog_3_method_11_code
def yX1_fill : MethodName := ⟨RX1, "fill", "([IIIII)V"⟩
abbrev cX1_mark : ByteArray := prog_3_method_12_code
def yX1_mark : MethodName := ⟨RX1, "mark", "(IIIIII)I"⟩
abbrev cX1_cell : ByteArray := prog_3_method_13_code
def yX1_cell : MethodName := ⟨RX1, "cell", "(III)I"⟩
abbrev cX1_piecesOf : ByteArray := prog_3_method_14_code
def yX1_piecesOf : MethodName := ⟨RX1, "piecesOf", "(I)I"⟩
abbrev cX1_skinTold : ByteArray := prog_3_method_15_code
def yX1_skinTold : MethodName := ⟨RX1, "skinTold", "(II)I"⟩
abbrev cX1_skin : ByteArray := prog_3_method_16_code
def yX1_skin : MethodName := ⟨RX1, "skin", "(II)I"⟩
abbrev cX1_wideOf : ByteArray := prog_3_method_17_code
def yX1_wideOf : MethodName := ⟨RX1, "wideOf", "(IZ)I"⟩
abbrev cX1_highOf : ByteArray := prog_3_method_18_code
def yX1_highOf : MethodName := ⟨RX1, "highOf", "(IZ)I"⟩
abbrev cX1_can : ByteArray := prog_3_method_19_code
def yX1_can : MethodName := ⟨RX1, "can", "([IIIZI)Z"⟩
abbrev cX1_first : ByteArray := prog_3_method_20_code
def yX1_first : MethodName := ⟨RX1, "first", "([IIIZ)I"⟩
abbrev cX1_cut : ByteArray := prog_3_method_21_code
def yX1_cut : MethodName := ⟨RX1, "cut", "(IIZII)I"⟩
abbrev cX1_place : ByteArray := prog_3_method_22_code
def yX1_place : MethodName := ⟨RX1, "place", "(IIZ)I"⟩
abbrev cX1_pieceTold : ByteArray := prog_3_method_23_code
def yX1_pieceTold : MethodName := ⟨RX1, "pieceTold", "(II)I"⟩
abbrev cX1_piece : ByteArray := prog_3_method_24_code
def yX1_piece : MethodName := ⟨RX1, "piece", "(II)I"⟩
abbrev cX1_isFree : ByteArray := prog_3_method_25_code
def yX1_isFree : MethodName := ⟨RX1, "isFree", "(III)Z"⟩
abbrev cX1_free : ByteArray := prog_3_method_26_code
def yX1_free : MethodName := ⟨RX1, "free", "(II)I"⟩
abbrev cX1_tranks : ByteArray := prog_3_method_27_code
def yX1_tranks : MethodName := ⟨RX1, "tranks", "(I)I"⟩
abbrev cX1_trankSkin : ByteArray := prog_3_method_28_code
def yX1_trankSkin : MethodName := ⟨RX1, "trankSkin", "(I)I"⟩
abbrev cX1_canSew : ByteArray := prog_3_method_29_code
def yX1_canSew : MethodName := ⟨RX1, "canSew", "(I)Z"⟩
abbrev cX1_take : ByteArray := prog_3_method_30_code
def yX1_take : MethodName := ⟨RX1, "take", "(III)V"⟩
abbrev cX1_sew : ByteArray := prog_3_method_31_code
def yX1_sew : MethodName := ⟨RX1, "sew", "(I)I"⟩
abbrev cX1_rip : ByteArray := prog_3_method_32_code
def yX1_rip : MethodName := ⟨RX1, "rip", "(I)I"⟩
abbrev cX1_pair : ByteArray := prog_3_method_33_code
def yX1_pair : MethodName := ⟨RX1, "pair", "(II)I"⟩
abbrev cX1_counted : ByteArray := prog_3_method_34_code
def yX1_counted : MethodName := ⟨RX1, "counted", "(I)I"⟩
abbrev cX1_count : ByteArray := prog_3_method_35_code
def yX1_count : MethodName := ⟨RX1, "count", "(I)I"⟩
abbrev cX1_given : ByteArray := prog_3_method_36_code
def yX1_given : MethodName := ⟨RX1, "given", "(IIZ)I"⟩
abbrev cX1_gives : ByteArray := prog_3_method_37_code
def yX1_gives : MethodName := ⟨RX1, "gives", "(IIZ)I"⟩
abbrev cX1_best : ByteArray := prog_3_method_38_code
def yX1_best : MethodName := ⟨RX1, "best", "(IZ)I"⟩
abbrev cX1_lacks : ByteArray := prog_3_method_39_code
def yX1_lacks : MethodName := ⟨RX1, "lacks", "(II)I"⟩
abbrev cX1_pairs : ByteArray := prog_3_method_40_code
def yX1_pairs : MethodName := ⟨RX1, "pairs", "(I)I"⟩
abbrev cX1_share : ByteArray := prog_3_method_41_code
def yX1_share : MethodName := ⟨RX1, "share", "()D"⟩
abbrev cX1_digest : ByteArray := prog_3_method_42_code
def yX1_digest : MethodName := ⟨RX1, "digest", "()J"⟩
def RJ6 : String := "java/lang/Integer"
def TJ6 : u_T := fun k => match k with
  | _ => ("", "", "", false)
def tyJ6 : Nat → FieldType := fun k => match k with
  | _ => .int
abbrev wsJ60 : List Cond := u_ws RJ6 TJ6 0
theorem nmJ6 : ∀ a, a < 0 → ∀ b, b < 0 → a ≠ b → (TJ6 a).2.1 ≠ (TJ6 b).2.1 := by decide +kernel
theorem tyJ6_ok : ∀ k, k < 0 → parseFieldDescriptor (TJ6 k).2.2.1 = some (tyJ6 k) := by decide +kernel
abbrev cJ6_bitCount_0f7a4 : ByteArray := prog_8_method_49_code
def yJ6_bitCount_0f7a4 : MethodName := ⟨RJ6, "bitCount", "(I)I"⟩
def RJ9 : String := "java/lang/Math"
def TJ9 : u_T := fun k => match k with
  | _ => ("", "", "", false)
def tyJ9 : Nat → FieldType := fun k => match k with
  | _ => .int
abbrev wsJ90 : List Cond := u_ws RJ9 TJ9 0
theorem nmJ9 : ∀ a, a < 0 → ∀ b, b < 0 → a ≠ b → (TJ9 a).2.1 ≠ (TJ9 b).2.1 := by decide +kernel
theorem tyJ9_ok : ∀ k, k < 0 → parseFieldDescriptor (TJ9 k).2.2.1 = some (tyJ9 k) := by decide +kernel
abbrev cJ9_max_7cf53 : ByteArray := prog_9_method_65_code
def yJ9_max_7cf53 : MethodName := ⟨RJ9, "max", "(II)I"⟩
abbrev cJ9_min_7cf53 : ByteArray := prog_9_method_69_code
def yJ9_min_7cf53 : MethodName := ⟨RJ9, "min", "(II)I"⟩
def RJ0 : String := "java/lang/String"
def TJ0 : u_T := fun k => match k with
  | _ => ("", "", "", false)
def tyJ0 : Nat → FieldType := fun k => match k with
  | _ => .int
abbrev wsJ00 : List Cond := u_ws RJ0 TJ0 0
theorem nmJ0 : ∀ a, a < 0 → ∀ b, b < 0 → a ≠ b → (TJ0 a).2.1 ≠ (TJ0 b).2.1 := by decide +kernel
theorem tyJ0_ok : ∀ k, k < 0 → parseFieldDescriptor (TJ0 k).2.2.1 = some (tyJ0 k) := by decide +kernel
def RJ10 : String := "java/lang/System"
def TJ10 : u_T := fun k => match k with
  | _ => ("", "", "", false)
def tyJ10 : Nat → FieldType := fun k => match k with
  | _ => .int
abbrev wsJ100 : List Cond := u_ws RJ10 TJ10 0
theorem nmJ10 : ∀ a, a < 0 → ∀ b, b < 0 → a ≠ b → (TJ10 a).2.1 ≠ (TJ10 b).2.1 := by decide +kernel
theorem tyJ10_ok : ∀ k, k < 0 → parseFieldDescriptor (TJ10 k).2.2.1 = some (tyJ10 k) := by decide +kernel
def RL : String := "GloveCuttersLaw"
abbrev cL_lay : ByteArray := method_3_code
def yL_lay : MethodName := ⟨RL, "lay", "(LGloveCutters;I[J)I"⟩
abbrev cL_mark : ByteArray := method_4_code
def yL_mark : MethodName := ⟨RL, "mark", "(LGloveCutters;IIIIII[J)I"⟩
abbrev cL_cell : ByteArray := method_5_code
def yL_cell : MethodName := ⟨RL, "cell", "(LGloveCutters;III[J)I"⟩
abbrev cL_skin : ByteArray := method_6_code
def yL_skin : MethodName := ⟨RL, "skin", "(LGloveCutters;II[J)I"⟩
abbrev cL_cut : ByteArray := method_7_code
def yL_cut : MethodName := ⟨RL, "cut", "(LGloveCutters;IIZII[J)I"⟩
abbrev cL_place : ByteArray := method_8_code
def yL_place : MethodName := ⟨RL, "place", "(LGloveCutters;IIZ[J)I"⟩
abbrev cL_piece : ByteArray := method_9_code
def yL_piece : MethodName := ⟨RL, "piece", "(LGloveCutters;II[J)I"⟩
abbrev cL_sew : ByteArray := method_10_code
def yL_sew : MethodName := ⟨RL, "sew", "(LGloveCutters;I[J)I"⟩
abbrev cL_rip : ByteArray := method_11_code
def yL_rip : MethodName := ⟨RL, "rip", "(LGloveCutters;I[J)I"⟩
abbrev cL_pair : ByteArray := method_12_code
def yL_pair : MethodName := ⟨RL, "pair", "(LGloveCutters;II[J)I"⟩
abbrev cL_count : ByteArray := method_13_code
def yL_count : MethodName := ⟨RL, "count", "(LGloveCutters;I[J)I"⟩
abbrev cL_gives : ByteArray := method_14_code
def yL_gives : MethodName := ⟨RL, "gives", "(LGloveCutters;IIZ[J)I"⟩
abbrev cL_best : ByteArray := method_15_code
def yL_best : MethodName := ⟨RL, "best", "(LGloveCutters;IZ[J)I"⟩
abbrev cL_lacks : ByteArray := method_16_code
def yL_lacks : MethodName := ⟨RL, "lacks", "(LGloveCutters;II[J)I"⟩
abbrev cL_pairs : ByteArray := method_17_code
def yL_pairs : MethodName := ⟨RL, "pairs", "(LGloveCutters;I[J)I"⟩
abbrev cL_law : ByteArray := code
def yL_law : MethodName := ⟨RL, "law", "([I)Z"⟩
def wsX0_init : List Cond := .code yX0_init cX0_init 1 none :: ([.methodLink RX0 3 objectInit, .instanceMethod objectInit, .code objectInit ⟨#[0xb1]⟩ 1 none, .arrayClass .int, .fieldLink RX0 9 "GloveCutters" "skinColour" "[I", .fieldLink RX0 13 "GloveCutters" "skinPieces" "[I", .classLink RX0 16 "[[I", .fieldLink RX0 18 "GloveCutters" "skinCells" "[[I", .fieldLink RX0 21 "GloveCutters" "pieceSkin" "[I", .fieldLink RX0 24 "GloveCutters" "pieceKind" "[I", .fieldLink RX0 27 "GloveCutters" "pieceWhere" "[I", .fieldLink RX0 30 "GloveCutters" "pieceThin" "[I", .fieldLink RX0 33 "GloveCutters" "pairColour" "[I", .fieldLink RX0 36 "GloveCutters" "pairTrankSkin" "[I", .fieldLink RX0 39 "GloveCutters" "pairSkins" "[I", .fieldLink RX0 42 "GloveCutters" "pairThin" "[I", .arrayClass .boolean, .fieldLink RX0 45 "GloveCutters" "pairRipped" "[Z", .fieldLink RX0 49 "GloveCutters" "trialCells" "[I"] ++ wsX00)
def wsX0_needColour : List Cond := .code yX0_needColour cX0_needColour 1 none :: ([.classLink RX0 74 "java/lang/IllegalArgumentException", .initialized "java/lang/IllegalArgumentException"] ++ (vx_atS RX0 78 "java/lang/IllegalArgumentException" ["java/lang/RuntimeException", "java/lang/Exception"]).filter goodWord)
def wsX0_lay : List Cond := .code yX0_lay cX0_lay 2 (some .int) :: ([.classLink RX0 60 "java/lang/IllegalStateException", .initialized "java/lang/IllegalStateException", .fieldLink RX0 56 "GloveCutters" "skins" "I", .fieldLink RX0 9 "GloveCutters" "skinColour" "[I", .methodLink RX0 52 yX0_needColour, .static yX0_needColour, .initialized RX0, .code yX0_needColour cX0_needColour 1 none, .classLink RX0 74 "java/lang/IllegalArgumentException", .initialized "java/lang/IllegalArgumentException"] ++ wsX00 ++ (vx_atS RX0 64 "java/lang/IllegalStateException" ["java/lang/RuntimeException", "java/lang/Exception"]).filter goodWord ++ (vx_atS RX0 78 "java/lang/IllegalArgumentException" ["java/lang/RuntimeException", "java/lang/Exception"]).filter goodWord)
def wsX0_needSkin : List Cond := .code yX0_needSkin cX0_needSkin 2 none :: ([.classLink RX0 123 "java/lang/IndexOutOfBoundsException", .initialized "java/lang/IndexOutOfBoundsException", .fieldLink RX0 56 "GloveCutters" "skins" "I"] ++ wsX00 ++ (vx_atS RX0 127 "java/lang/IndexOutOfBoundsException" ["java/lang/RuntimeException", "java/lang/Exception"]).filter goodWord)
def wsX0_needCell : List Cond := .code yX0_needCell cX0_needCell 2 none :: ([.classLink RX0 123 "java/lang/IndexOutOfBoundsException", .initialized "java/lang/IndexOutOfBoundsException"] ++ (vx_atS RX0 127 "java/lang/IndexOutOfBoundsException" ["java/lang/RuntimeException", "java/lang/Exception"]).filter goodWord)
def wsX0_tally : List Cond := .code yX0_tally cX0_tally 9 (some .int) :: ([])
def wsX0_paint : List Cond := .code yX0_paint cX0_paint 8 none :: ([])
def wsX0_mark : List Cond := .code yX0_mark cX0_mark 9 (some .int) :: ([.classLink RX0 74 "java/lang/IllegalArgumentException", .initialized "java/lang/IllegalArgumentException", .classLink RX0 60 "java/lang/IllegalStateException", .initialized "java/lang/IllegalStateException", .fieldLink RX0 18 "GloveCutters" "skinCells" "[[I", .methodLink RX0 67 yX0_needSkin, .instanceMethod yX0_needSkin, .selects RX0 yX0_needSkin yX0_needSkin, .initialized RX0, .code yX0_needSkin cX0_needSkin 2 none, .classLink RX0 123 "java/lang/IndexOutOfBoundsException", .initialized "java/lang/IndexOutOfBoundsException", .fieldLink RX0 56 "GloveCutters" "skins" "I", .methodLink RX0 70 yX0_needCell, .static yX0_needCell, .code yX0_needCell cX0_needCell 2 none, .methodLink RX0 81 yX0_tally, .static yX0_tally, .code yX0_tally cX0_tally 9 (some .int), .methodLink RX0 87 yX0_paint, .static yX0_paint, .code yX0_paint cX0_paint 8 none] ++ wsX00 ++ (vx_atS RX0 78 "java/lang/IllegalArgumentException" ["java/lang/RuntimeException", "java/lang/Exception"]).filter goodWord ++ (vx_atS RX0 64 "java/lang/IllegalStateException" ["java/lang/RuntimeException", "java/lang/Exception"]).filter goodWord ++ (vx_atS RX0 127 "java/lang/IndexOutOfBoundsException" ["java/lang/RuntimeException", "java/lang/Exception"]).filter goodWord)
def wsX0_cell : List Cond := .code yX0_cell cX0_cell 4 (some .int) :: ([.fieldLink RX0 18 "GloveCutters" "skinCells" "[[I", .methodLink RX0 67 yX0_needSkin, .instanceMethod yX0_needSkin, .selects RX0 yX0_needSkin yX0_needSkin, .initialized RX0, .code yX0_needSkin cX0_needSkin 2 none, .classLink RX0 123 "java/lang/IndexOutOfBoundsException", .initialized "java/lang/IndexOutOfBoundsException", .fieldLink RX0 56 "GloveCutters" "skins" "I", .methodLink RX0 70 yX0_needCell, .static yX0_needCell, .code yX0_needCell cX0_needCell 2 none] ++ wsX00 ++ (vx_atS RX0 127 "java/lang/IndexOutOfBoundsException" ["java/lang/RuntimeException", "java/lang/Exception"]).filter goodWord)
def wsX0_needWhat : List Cond := .code yX0_needWhat cX0_needWhat 2 none :: ([.classLink RX0 123 "java/lang/IndexOutOfBoundsException", .initialized "java/lang/IndexOutOfBoundsException"] ++ (vx_atS RX0 127 "java/lang/IndexOutOfBoundsException" ["java/lang/RuntimeException", "java/lang/Exception"]).filter goodWord)
def wsX0_tallySkin : List Cond := .code yX0_tallySkin cX0_tallySkin 3 (some .int) :: ([.fieldLink RX0 18 "GloveCutters" "skinCells" "[[I", .methodLink RX0 81 yX0_tally, .static yX0_tally, .initialized RX0, .code yX0_tally cX0_tally 9 (some .int)] ++ wsX00)
def wsX0_tellSkin : List Cond := .code yX0_tellSkin cX0_tellSkin 3 (some .int) :: ([.fieldLink RX0 9 "GloveCutters" "skinColour" "[I", .fieldLink RX0 13 "GloveCutters" "skinPieces" "[I", .methodLink RX0 174 yX0_tallySkin, .instanceMethod yX0_tallySkin, .selects RX0 yX0_tallySkin yX0_tallySkin, .initialized RX0, .code yX0_tallySkin cX0_tallySkin 3 (some .int), .fieldLink RX0 18 "GloveCutters" "skinCells" "[[I", .methodLink RX0 81 yX0_tally, .static yX0_tally, .code yX0_tally cX0_tally 9 (some .int)] ++ wsX00)
def wsX0_skin_r1 : List Cond := [Cond.methodLink RX0 67 yX0_needSkin, Cond.instanceMethod yX0_needSkin, Cond.selects RX0 yX0_needSkin yX0_needSkin, Cond.initialized RX0, Cond.code yX0_needSkin cX0_needSkin 2 none, Cond.classLink RX0 123 "java/lang/IndexOutOfBoundsException", Cond.initialized "java/lang/IndexOutOfBoundsException", Cond.fieldLink RX0 56 "GloveCutters" "skins" "I", Cond.methodLink RX0 91 yX0_needWhat, Cond.static yX0_needWhat, Cond.code yX0_needWhat cX0_needWhat 2 none, Cond.methodLink RX0 94 yX0_tellSkin, Cond.instanceMethod yX0_tellSkin, Cond.selects RX0 yX0_tellSkin yX0_tellSkin, Cond.code yX0_tellSkin cX0_tellSkin 3 (some .int), Cond.fieldLink RX0 9 "GloveCutters" "skinColour" "[I", Cond.fieldLink RX0 13 "GloveCutters" "skinPieces" "[I", Cond.methodLink RX0 174 yX0_tallySkin, Cond.instanceMethod yX0_tallySkin, Cond.selects RX0 yX0_tallySkin yX0_tallySkin, Cond.code yX0_tallySkin cX0_tallySkin 3 (some .int), Cond.fieldLink RX0 18 "GloveCutters" "skinCells" "[[I", Cond.methodLink RX0 81 yX0_tally, Cond.static yX0_tally]
def wsX0_skin_r2 : List Cond := [Cond.code yX0_tally cX0_tally 9 (some .int)]
def wsX0_skin : List Cond := .code yX0_skin cX0_skin 3 (some .int) :: ((wsX0_skin_r1 ++ wsX0_skin_r2) ++ wsX00 ++ (vx_atS RX0 127 "java/lang/IndexOutOfBoundsException" ["java/lang/RuntimeException", "java/lang/Exception"]).filter goodWord)
def wsX0_needKind : List Cond := .code yX0_needKind cX0_needKind 1 none :: ([.classLink RX0 74 "java/lang/IllegalArgumentException", .initialized "java/lang/IllegalArgumentException"] ++ (vx_atS RX0 78 "java/lang/IllegalArgumentException" ["java/lang/RuntimeException", "java/lang/Exception"]).filter goodWord)
def wsX0_wideOf : List Cond := .code yX0_wideOf cX0_wideOf 2 (some .int) :: ([.fieldLink RX0 204 "GloveCutters" "KIND_HIGH" "[I", .fieldLink RX0 207 "GloveCutters" "KIND_WIDE" "[I"])
def wsX0_highOf : List Cond := .code yX0_highOf cX0_highOf 2 (some .int) :: ([.fieldLink RX0 207 "GloveCutters" "KIND_WIDE" "[I", .fieldLink RX0 204 "GloveCutters" "KIND_HIGH" "[I"])
def wsX0_fits : List Cond := .code yX0_fits cX0_fits 7 (some .boolean) :: ([.fieldLink RX0 210 "GloveCutters" "KIND_MOST_THIN" "[I", .methodLink RX0 112 yX0_wideOf, .static yX0_wideOf, .initialized RX0, .code yX0_wideOf cX0_wideOf 2 (some .int), .fieldLink RX0 204 "GloveCutters" "KIND_HIGH" "[I", .fieldLink RX0 207 "GloveCutters" "KIND_WIDE" "[I", .methodLink RX0 116 yX0_highOf, .static yX0_highOf, .code yX0_highOf cX0_highOf 2 (some .int), .methodLink RX0 81 yX0_tally, .static yX0_tally, .code yX0_tally cX0_tally 9 (some .int)])
def wsX0_cut_r1 : List Cond := [Cond.classLink RX0 60 "java/lang/IllegalStateException", Cond.initialized "java/lang/IllegalStateException", Cond.fieldLink RX0 18 "GloveCutters" "skinCells" "[[I", Cond.fieldLink RX0 107 "GloveCutters" "pieces" "I", Cond.fieldLink RX0 21 "GloveCutters" "pieceSkin" "[I", Cond.fieldLink RX0 24 "GloveCutters" "pieceKind" "[I", Cond.fieldLink RX0 27 "GloveCutters" "pieceWhere" "[I", Cond.fieldLink RX0 30 "GloveCutters" "pieceThin" "[I", Cond.fieldLink RX0 13 "GloveCutters" "skinPieces" "[I", Cond.methodLink RX0 67 yX0_needSkin, Cond.instanceMethod yX0_needSkin, Cond.selects RX0 yX0_needSkin yX0_needSkin, Cond.initialized RX0, Cond.code yX0_needSkin cX0_needSkin 2 none, Cond.classLink RX0 123 "java/lang/IndexOutOfBoundsException", Cond.initialized "java/lang/IndexOutOfBoundsException", Cond.fieldLink RX0 56 "GloveCutters" "skins" "I", Cond.methodLink RX0 70 yX0_needCell, Cond.static yX0_needCell, Cond.code yX0_needCell cX0_needCell 2 none, Cond.methodLink RX0 98 yX0_needKind, Cond.static yX0_needKind, Cond.code yX0_needKind cX0_needKind 1 none, Cond.classLink RX0 74 "java/lang/IllegalArgumentException"]
def wsX0_cut_r2 : List Cond := [Cond.initialized "java/lang/IllegalArgumentException", Cond.methodLink RX0 101 yX0_fits, Cond.static yX0_fits, Cond.code yX0_fits cX0_fits 7 (some .boolean), Cond.fieldLink RX0 210 "GloveCutters" "KIND_MOST_THIN" "[I", Cond.methodLink RX0 112 yX0_wideOf, Cond.static yX0_wideOf, Cond.code yX0_wideOf cX0_wideOf 2 (some .int), Cond.fieldLink RX0 204 "GloveCutters" "KIND_HIGH" "[I", Cond.fieldLink RX0 207 "GloveCutters" "KIND_WIDE" "[I", Cond.methodLink RX0 116 yX0_highOf, Cond.static yX0_highOf, Cond.code yX0_highOf cX0_highOf 2 (some .int), Cond.methodLink RX0 81 yX0_tally, Cond.static yX0_tally, Cond.code yX0_tally cX0_tally 9 (some .int), Cond.methodLink RX0 87 yX0_paint, Cond.static yX0_paint, Cond.code yX0_paint cX0_paint 8 none]
def wsX0_cut : List Cond := .code yX0_cut cX0_cut 9 (some .int) :: ((wsX0_cut_r1 ++ wsX0_cut_r2) ++ wsX00 ++ (vx_atS RX0 64 "java/lang/IllegalStateException" ["java/lang/RuntimeException", "java/lang/Exception"]).filter goodWord ++ (vx_atS RX0 127 "java/lang/IndexOutOfBoundsException" ["java/lang/RuntimeException", "java/lang/Exception"]).filter goodWord ++ (vx_atS RX0 78 "java/lang/IllegalArgumentException" ["java/lang/RuntimeException", "java/lang/Exception"]).filter goodWord)
def wsX0_firstFit : List Cond := .code yX0_firstFit cX0_firstFit 5 (some .int) :: ([.methodLink RX0 101 yX0_fits, .static yX0_fits, .initialized RX0, .code yX0_fits cX0_fits 7 (some .boolean), .fieldLink RX0 210 "GloveCutters" "KIND_MOST_THIN" "[I", .methodLink RX0 112 yX0_wideOf, .static yX0_wideOf, .code yX0_wideOf cX0_wideOf 2 (some .int), .fieldLink RX0 204 "GloveCutters" "KIND_HIGH" "[I", .fieldLink RX0 207 "GloveCutters" "KIND_WIDE" "[I", .methodLink RX0 116 yX0_highOf, .static yX0_highOf, .code yX0_highOf cX0_highOf 2 (some .int), .methodLink RX0 81 yX0_tally, .static yX0_tally, .code yX0_tally cX0_tally 9 (some .int)])
def wsX0_place_r1 : List Cond := [Cond.fieldLink RX0 18 "GloveCutters" "skinCells" "[[I", Cond.methodLink RX0 67 yX0_needSkin, Cond.instanceMethod yX0_needSkin, Cond.selects RX0 yX0_needSkin yX0_needSkin, Cond.initialized RX0, Cond.code yX0_needSkin cX0_needSkin 2 none, Cond.classLink RX0 123 "java/lang/IndexOutOfBoundsException", Cond.initialized "java/lang/IndexOutOfBoundsException", Cond.fieldLink RX0 56 "GloveCutters" "skins" "I", Cond.methodLink RX0 98 yX0_needKind, Cond.static yX0_needKind, Cond.code yX0_needKind cX0_needKind 1 none, Cond.classLink RX0 74 "java/lang/IllegalArgumentException", Cond.initialized "java/lang/IllegalArgumentException", Cond.methodLink RX0 119 yX0_firstFit, Cond.static yX0_firstFit, Cond.code yX0_firstFit cX0_firstFit 5 (some .int), Cond.methodLink RX0 101 yX0_fits, Cond.static yX0_fits, Cond.code yX0_fits cX0_fits 7 (some .boolean), Cond.fieldLink RX0 210 "GloveCutters" "KIND_MOST_THIN" "[I", Cond.methodLink RX0 112 yX0_wideOf, Cond.static yX0_wideOf, Cond.code yX0_wideOf cX0_wideOf 2 (some .int)]
def wsX0_place_r2 : List Cond := [Cond.fieldLink RX0 204 "GloveCutters" "KIND_HIGH" "[I", Cond.fieldLink RX0 207 "GloveCutters" "KIND_WIDE" "[I", Cond.methodLink RX0 116 yX0_highOf, Cond.static yX0_highOf, Cond.code yX0_highOf cX0_highOf 2 (some .int), Cond.methodLink RX0 81 yX0_tally, Cond.static yX0_tally, Cond.code yX0_tally cX0_tally 9 (some .int)]
def wsX0_place : List Cond := .code yX0_place cX0_place 4 (some .int) :: ((wsX0_place_r1 ++ wsX0_place_r2) ++ wsX00 ++ (vx_atS RX0 127 "java/lang/IndexOutOfBoundsException" ["java/lang/RuntimeException", "java/lang/Exception"]).filter goodWord ++ (vx_atS RX0 78 "java/lang/IllegalArgumentException" ["java/lang/RuntimeException", "java/lang/Exception"]).filter goodWord)
def wsX0_tellPiece : List Cond := .code yX0_tellPiece cX0_tellPiece 3 (some .int) :: ([.fieldLink RX0 21 "GloveCutters" "pieceSkin" "[I", .fieldLink RX0 24 "GloveCutters" "pieceKind" "[I", .fieldLink RX0 27 "GloveCutters" "pieceWhere" "[I", .fieldLink RX0 30 "GloveCutters" "pieceThin" "[I"] ++ wsX00)
def wsX0_piece : List Cond := .code yX0_piece cX0_piece 3 (some .int) :: ([.classLink RX0 123 "java/lang/IndexOutOfBoundsException", .initialized "java/lang/IndexOutOfBoundsException", .fieldLink RX0 107 "GloveCutters" "pieces" "I", .methodLink RX0 91 yX0_needWhat, .static yX0_needWhat, .initialized RX0, .code yX0_needWhat cX0_needWhat 2 none, .methodLink RX0 128 yX0_tellPiece, .instanceMethod yX0_tellPiece, .selects RX0 yX0_tellPiece yX0_tellPiece, .code yX0_tellPiece cX0_tellPiece 3 (some .int), .fieldLink RX0 21 "GloveCutters" "pieceSkin" "[I", .fieldLink RX0 24 "GloveCutters" "pieceKind" "[I", .fieldLink RX0 27 "GloveCutters" "pieceWhere" "[I", .fieldLink RX0 30 "GloveCutters" "pieceThin" "[I"] ++ wsX00 ++ (vx_atS RX0 127 "java/lang/IndexOutOfBoundsException" ["java/lang/RuntimeException", "java/lang/Exception"]).filter goodWord)
def wsX0_freeTranks : List Cond := .code yX0_freeTranks cX0_freeTranks 4 (some .int) :: ([.fieldLink RX0 107 "GloveCutters" "pieces" "I", .fieldLink RX0 27 "GloveCutters" "pieceWhere" "[I", .fieldLink RX0 24 "GloveCutters" "pieceKind" "[I", .fieldLink RX0 21 "GloveCutters" "pieceSkin" "[I"] ++ wsX00)
def wsX0_mostTranksOfOneSkin : List Cond := .code yX0_mostTranksOfOneSkin cX0_mostTranksOfOneSkin 4 (some .int) :: ([.fieldLink RX0 56 "GloveCutters" "skins" "I", .fieldLink RX0 9 "GloveCutters" "skinColour" "[I", .methodLink RX0 226 Lib.Math.max.name, .static Lib.Math.max.name, .initialized "java/lang/Math", .code Lib.Math.max.name Lib.Math.max.code 2 (some .int), .methodLink RX0 223 yX0_freeTranks, .instanceMethod yX0_freeTranks, .selects RX0 yX0_freeTranks yX0_freeTranks, .initialized RX0, .code yX0_freeTranks cX0_freeTranks 4 (some .int), .fieldLink RX0 107 "GloveCutters" "pieces" "I", .fieldLink RX0 27 "GloveCutters" "pieceWhere" "[I", .fieldLink RX0 24 "GloveCutters" "pieceKind" "[I", .fieldLink RX0 21 "GloveCutters" "pieceSkin" "[I"] ++ wsX00)
def wsX0_isFreeOfColour : List Cond := .code yX0_isFreeOfColour cX0_isFreeOfColour 4 (some .boolean) :: ([.fieldLink RX0 27 "GloveCutters" "pieceWhere" "[I", .fieldLink RX0 24 "GloveCutters" "pieceKind" "[I", .fieldLink RX0 9 "GloveCutters" "skinColour" "[I", .fieldLink RX0 21 "GloveCutters" "pieceSkin" "[I"] ++ wsX00)
def wsX0_freeOfColour : List Cond := .code yX0_freeOfColour cX0_freeOfColour 5 (some .int) :: ([.fieldLink RX0 107 "GloveCutters" "pieces" "I", .methodLink RX0 219 yX0_isFreeOfColour, .instanceMethod yX0_isFreeOfColour, .selects RX0 yX0_isFreeOfColour yX0_isFreeOfColour, .initialized RX0, .code yX0_isFreeOfColour cX0_isFreeOfColour 4 (some .boolean), .fieldLink RX0 27 "GloveCutters" "pieceWhere" "[I", .fieldLink RX0 24 "GloveCutters" "pieceKind" "[I", .fieldLink RX0 9 "GloveCutters" "skinColour" "[I", .fieldLink RX0 21 "GloveCutters" "pieceSkin" "[I"] ++ wsX00)
def wsX0_lacking_r1 : List Cond := [Cond.fieldLink RX0 229 "GloveCutters" "KIND_IN_PAIR" "[I", Cond.methodLink RX0 226 Lib.Math.max.name, Cond.static Lib.Math.max.name, Cond.initialized "java/lang/Math", Cond.code Lib.Math.max.name Lib.Math.max.code 2 (some .int), Cond.methodLink RX0 232 yX0_mostTranksOfOneSkin, Cond.instanceMethod yX0_mostTranksOfOneSkin, Cond.selects RX0 yX0_mostTranksOfOneSkin yX0_mostTranksOfOneSkin, Cond.initialized RX0, Cond.code yX0_mostTranksOfOneSkin cX0_mostTranksOfOneSkin 4 (some .int), Cond.fieldLink RX0 56 "GloveCutters" "skins" "I", Cond.fieldLink RX0 9 "GloveCutters" "skinColour" "[I", Cond.methodLink RX0 223 yX0_freeTranks, Cond.instanceMethod yX0_freeTranks, Cond.selects RX0 yX0_freeTranks yX0_freeTranks, Cond.code yX0_freeTranks cX0_freeTranks 4 (some .int), Cond.fieldLink RX0 107 "GloveCutters" "pieces" "I", Cond.fieldLink RX0 27 "GloveCutters" "pieceWhere" "[I", Cond.fieldLink RX0 24 "GloveCutters" "pieceKind" "[I", Cond.fieldLink RX0 21 "GloveCutters" "pieceSkin" "[I", Cond.methodLink RX0 163 yX0_freeOfColour, Cond.instanceMethod yX0_freeOfColour, Cond.selects RX0 yX0_freeOfColour yX0_freeOfColour, Cond.code yX0_freeOfColour cX0_freeOfColour 5 (some .int)]
def wsX0_lacking_r2 : List Cond := [Cond.methodLink RX0 219 yX0_isFreeOfColour, Cond.instanceMethod yX0_isFreeOfColour, Cond.selects RX0 yX0_isFreeOfColour yX0_isFreeOfColour, Cond.code yX0_isFreeOfColour cX0_isFreeOfColour 4 (some .boolean)]
def wsX0_lacking : List Cond := .code yX0_lacking cX0_lacking 4 (some .int) :: ((wsX0_lacking_r1 ++ wsX0_lacking_r2) ++ wsX00)
def wsX0_firstSkinWithTranks : List Cond := .code yX0_firstSkinWithTranks cX0_firstSkinWithTranks 3 (some .int) :: ([.fieldLink RX0 56 "GloveCutters" "skins" "I", .fieldLink RX0 9 "GloveCutters" "skinColour" "[I", .fieldLink RX0 229 "GloveCutters" "KIND_IN_PAIR" "[I", .methodLink RX0 223 yX0_freeTranks, .instanceMethod yX0_freeTranks, .selects RX0 yX0_freeTranks yX0_freeTranks, .initialized RX0, .code yX0_freeTranks cX0_freeTranks 4 (some .int), .fieldLink RX0 107 "GloveCutters" "pieces" "I", .fieldLink RX0 27 "GloveCutters" "pieceWhere" "[I", .fieldLink RX0 24 "GloveCutters" "pieceKind" "[I", .fieldLink RX0 21 "GloveCutters" "pieceSkin" "[I"] ++ wsX00)
def wsJ6_bitCount_0f7a4 : List Cond := .code yJ6_bitCount_0f7a4 cJ6_bitCount_0f7a4 1 (some .int) :: ([.constant RJ6 265 (1431655765), .constant RJ6 266 (858993459), .constant RJ6 267 (252645135)])
def wsX0_enterPair_r1 : List Cond := [Cond.fieldLink RX0 33 "GloveCutters" "pairColour" "[I", Cond.fieldLink RX0 136 "GloveCutters" "sewn" "I", Cond.fieldLink RX0 36 "GloveCutters" "pairTrankSkin" "[I", Cond.fieldLink RX0 229 "GloveCutters" "KIND_IN_PAIR" "[I", Cond.fieldLink RX0 107 "GloveCutters" "pieces" "I", Cond.fieldLink RX0 21 "GloveCutters" "pieceSkin" "[I", Cond.fieldLink RX0 27 "GloveCutters" "pieceWhere" "[I", Cond.fieldLink RX0 42 "GloveCutters" "pairThin" "[I", Cond.fieldLink RX0 30 "GloveCutters" "pieceThin" "[I", Cond.fieldLink RX0 39 "GloveCutters" "pairSkins" "[I", Cond.methodLink RX0 235 yX0_firstSkinWithTranks, Cond.instanceMethod yX0_firstSkinWithTranks, Cond.selects RX0 yX0_firstSkinWithTranks yX0_firstSkinWithTranks, Cond.initialized RX0, Cond.code yX0_firstSkinWithTranks cX0_firstSkinWithTranks 3 (some .int), Cond.fieldLink RX0 56 "GloveCutters" "skins" "I", Cond.fieldLink RX0 9 "GloveCutters" "skinColour" "[I", Cond.methodLink RX0 223 yX0_freeTranks, Cond.instanceMethod yX0_freeTranks, Cond.selects RX0 yX0_freeTranks yX0_freeTranks, Cond.code yX0_freeTranks cX0_freeTranks 4 (some .int), Cond.fieldLink RX0 24 "GloveCutters" "pieceKind" "[I", Cond.methodLink RX0 219 yX0_isFreeOfColour, Cond.instanceMethod yX0_isFreeOfColour]
def wsX0_enterPair_r2 : List Cond := [Cond.selects RX0 yX0_isFreeOfColour yX0_isFreeOfColour, Cond.code yX0_isFreeOfColour cX0_isFreeOfColour 4 (some .boolean), Cond.methodLink RX0 238 yJ6_bitCount_0f7a4, Cond.static yJ6_bitCount_0f7a4, Cond.initialized RJ6, Cond.code yJ6_bitCount_0f7a4 cJ6_bitCount_0f7a4 1 (some .int), Cond.constant RJ6 265 (1431655765), Cond.constant RJ6 266 (858993459), Cond.constant RJ6 267 (252645135)]
def wsX0_enterPair : List Cond := .code yX0_enterPair cX0_enterPair 8 none :: ((wsX0_enterPair_r1 ++ wsX0_enterPair_r2) ++ wsX00)
def wsX0_sew_r1 : List Cond := [Cond.classLink RX0 60 "java/lang/IllegalStateException", Cond.initialized "java/lang/IllegalStateException", Cond.fieldLink RX0 136 "GloveCutters" "sewn" "I", Cond.methodLink RX0 52 yX0_needColour, Cond.static yX0_needColour, Cond.initialized RX0, Cond.code yX0_needColour cX0_needColour 1 none, Cond.classLink RX0 74 "java/lang/IllegalArgumentException", Cond.initialized "java/lang/IllegalArgumentException", Cond.methodLink RX0 131 yX0_lacking, Cond.instanceMethod yX0_lacking, Cond.selects RX0 yX0_lacking yX0_lacking, Cond.code yX0_lacking cX0_lacking 4 (some .int), Cond.fieldLink RX0 229 "GloveCutters" "KIND_IN_PAIR" "[I", Cond.methodLink RX0 226 Lib.Math.max.name, Cond.static Lib.Math.max.name, Cond.initialized "java/lang/Math", Cond.code Lib.Math.max.name Lib.Math.max.code 2 (some .int), Cond.methodLink RX0 232 yX0_mostTranksOfOneSkin, Cond.instanceMethod yX0_mostTranksOfOneSkin, Cond.selects RX0 yX0_mostTranksOfOneSkin yX0_mostTranksOfOneSkin, Cond.code yX0_mostTranksOfOneSkin cX0_mostTranksOfOneSkin 4 (some .int), Cond.fieldLink RX0 56 "GloveCutters" "skins" "I", Cond.fieldLink RX0 9 "GloveCutters" "skinColour" "[I"]
def wsX0_sew_r2 : List Cond := [Cond.methodLink RX0 223 yX0_freeTranks, Cond.instanceMethod yX0_freeTranks, Cond.selects RX0 yX0_freeTranks yX0_freeTranks, Cond.code yX0_freeTranks cX0_freeTranks 4 (some .int), Cond.fieldLink RX0 107 "GloveCutters" "pieces" "I", Cond.fieldLink RX0 27 "GloveCutters" "pieceWhere" "[I", Cond.fieldLink RX0 24 "GloveCutters" "pieceKind" "[I", Cond.fieldLink RX0 21 "GloveCutters" "pieceSkin" "[I", Cond.methodLink RX0 163 yX0_freeOfColour, Cond.instanceMethod yX0_freeOfColour, Cond.selects RX0 yX0_freeOfColour yX0_freeOfColour, Cond.code yX0_freeOfColour cX0_freeOfColour 5 (some .int), Cond.methodLink RX0 219 yX0_isFreeOfColour, Cond.instanceMethod yX0_isFreeOfColour, Cond.selects RX0 yX0_isFreeOfColour yX0_isFreeOfColour, Cond.code yX0_isFreeOfColour cX0_isFreeOfColour 4 (some .boolean), Cond.methodLink RX0 141 yX0_enterPair, Cond.instanceMethod yX0_enterPair, Cond.selects RX0 yX0_enterPair yX0_enterPair, Cond.code yX0_enterPair cX0_enterPair 8 none, Cond.fieldLink RX0 33 "GloveCutters" "pairColour" "[I", Cond.fieldLink RX0 36 "GloveCutters" "pairTrankSkin" "[I", Cond.fieldLink RX0 42 "GloveCutters" "pairThin" "[I", Cond.fieldLink RX0 30 "GloveCutters" "pieceThin" "[I"]
def wsX0_sew_r3 : List Cond := [Cond.fieldLink RX0 39 "GloveCutters" "pairSkins" "[I", Cond.methodLink RX0 235 yX0_firstSkinWithTranks, Cond.instanceMethod yX0_firstSkinWithTranks, Cond.selects RX0 yX0_firstSkinWithTranks yX0_firstSkinWithTranks, Cond.code yX0_firstSkinWithTranks cX0_firstSkinWithTranks 3 (some .int), Cond.methodLink RX0 238 yJ6_bitCount_0f7a4, Cond.static yJ6_bitCount_0f7a4, Cond.initialized RJ6, Cond.code yJ6_bitCount_0f7a4 cJ6_bitCount_0f7a4 1 (some .int), Cond.constant RJ6 265 (1431655765), Cond.constant RJ6 266 (858993459), Cond.constant RJ6 267 (252645135)]
def wsX0_sew : List Cond := .code yX0_sew cX0_sew 3 (some .int) :: ((wsX0_sew_r1 ++ (wsX0_sew_r2 ++ wsX0_sew_r3)) ++ wsX00 ++ (vx_atS RX0 64 "java/lang/IllegalStateException" ["java/lang/RuntimeException", "java/lang/Exception"]).filter goodWord ++ (vx_atS RX0 78 "java/lang/IllegalArgumentException" ["java/lang/RuntimeException", "java/lang/Exception"]).filter goodWord)
def wsX0_needPair : List Cond := .code yX0_needPair cX0_needPair 2 none :: ([.classLink RX0 123 "java/lang/IndexOutOfBoundsException", .initialized "java/lang/IndexOutOfBoundsException", .fieldLink RX0 136 "GloveCutters" "sewn" "I"] ++ wsX00 ++ (vx_atS RX0 127 "java/lang/IndexOutOfBoundsException" ["java/lang/RuntimeException", "java/lang/Exception"]).filter goodWord)
def wsX0_rip : List Cond := .code yX0_rip cX0_rip 5 (some .int) :: ([.classLink RX0 60 "java/lang/IllegalStateException", .initialized "java/lang/IllegalStateException", .fieldLink RX0 45 "GloveCutters" "pairRipped" "[Z", .fieldLink RX0 107 "GloveCutters" "pieces" "I", .fieldLink RX0 27 "GloveCutters" "pieceWhere" "[I", .fieldLink RX0 24 "GloveCutters" "pieceKind" "[I", .methodLink RX0 144 yX0_needPair, .instanceMethod yX0_needPair, .selects RX0 yX0_needPair yX0_needPair, .initialized RX0, .code yX0_needPair cX0_needPair 2 none, .classLink RX0 123 "java/lang/IndexOutOfBoundsException", .initialized "java/lang/IndexOutOfBoundsException", .fieldLink RX0 136 "GloveCutters" "sewn" "I"] ++ wsX00 ++ (vx_atS RX0 64 "java/lang/IllegalStateException" ["java/lang/RuntimeException", "java/lang/Exception"]).filter goodWord ++ (vx_atS RX0 127 "java/lang/IndexOutOfBoundsException" ["java/lang/RuntimeException", "java/lang/Exception"]).filter goodWord)
def wsX0_tellPair : List Cond := .code yX0_tellPair cX0_tellPair 3 (some .int) :: ([.fieldLink RX0 33 "GloveCutters" "pairColour" "[I", .fieldLink RX0 36 "GloveCutters" "pairTrankSkin" "[I", .fieldLink RX0 39 "GloveCutters" "pairSkins" "[I", .fieldLink RX0 42 "GloveCutters" "pairThin" "[I", .fieldLink RX0 45 "GloveCutters" "pairRipped" "[Z"] ++ wsX00)
def wsX0_pair : List Cond := .code yX0_pair cX0_pair 3 (some .int) :: ([.methodLink RX0 144 yX0_needPair, .instanceMethod yX0_needPair, .selects RX0 yX0_needPair yX0_needPair, .initialized RX0, .code yX0_needPair cX0_needPair 2 none, .classLink RX0 123 "java/lang/IndexOutOfBoundsException", .initialized "java/lang/IndexOutOfBoundsException", .fieldLink RX0 136 "GloveCutters" "sewn" "I", .methodLink RX0 91 yX0_needWhat, .static yX0_needWhat, .code yX0_needWhat cX0_needWhat 2 none, .methodLink RX0 149 yX0_tellPair, .instanceMethod yX0_tellPair, .selects RX0 yX0_tellPair yX0_tellPair, .code yX0_tellPair cX0_tellPair 3 (some .int), .fieldLink RX0 33 "GloveCutters" "pairColour" "[I", .fieldLink RX0 36 "GloveCutters" "pairTrankSkin" "[I", .fieldLink RX0 39 "GloveCutters" "pairSkins" "[I", .fieldLink RX0 42 "GloveCutters" "pairThin" "[I", .fieldLink RX0 45 "GloveCutters" "pairRipped" "[Z"] ++ wsX00 ++ (vx_atS RX0 127 "java/lang/IndexOutOfBoundsException" ["java/lang/RuntimeException", "java/lang/Exception"]).filter goodWord)
def wsX0_piecesAt : List Cond := .code yX0_piecesAt cX0_piecesAt 4 (some .int) :: ([.fieldLink RX0 107 "GloveCutters" "pieces" "I", .fieldLink RX0 27 "GloveCutters" "pieceWhere" "[I"] ++ wsX00)
def wsX0_pairsInUse : List Cond := .code yX0_pairsInUse cX0_pairsInUse 3 (some .int) :: ([.fieldLink RX0 136 "GloveCutters" "sewn" "I", .fieldLink RX0 45 "GloveCutters" "pairRipped" "[Z"] ++ wsX00)
def wsX0_tellCount : List Cond := .code yX0_tellCount cX0_tellCount 2 (some .int) :: ([.fieldLink RX0 56 "GloveCutters" "skins" "I", .fieldLink RX0 107 "GloveCutters" "pieces" "I", .fieldLink RX0 136 "GloveCutters" "sewn" "I", .methodLink RX0 197 yX0_piecesAt, .instanceMethod yX0_piecesAt, .selects RX0 yX0_piecesAt yX0_piecesAt, .initialized RX0, .code yX0_piecesAt cX0_piecesAt 4 (some .int), .fieldLink RX0 27 "GloveCutters" "pieceWhere" "[I", .methodLink RX0 200 yX0_pairsInUse, .instanceMethod yX0_pairsInUse, .selects RX0 yX0_pairsInUse yX0_pairsInUse, .code yX0_pairsInUse cX0_pairsInUse 3 (some .int), .fieldLink RX0 45 "GloveCutters" "pairRipped" "[Z"] ++ wsX00)
def wsX0_count : List Cond := .code yX0_count cX0_count 2 (some .int) :: ([.methodLink RX0 91 yX0_needWhat, .static yX0_needWhat, .initialized RX0, .code yX0_needWhat cX0_needWhat 2 none, .classLink RX0 123 "java/lang/IndexOutOfBoundsException", .initialized "java/lang/IndexOutOfBoundsException", .methodLink RX0 152 yX0_tellCount, .instanceMethod yX0_tellCount, .selects RX0 yX0_tellCount yX0_tellCount, .code yX0_tellCount cX0_tellCount 2 (some .int), .fieldLink RX0 56 "GloveCutters" "skins" "I", .fieldLink RX0 107 "GloveCutters" "pieces" "I", .fieldLink RX0 136 "GloveCutters" "sewn" "I", .methodLink RX0 197 yX0_piecesAt, .instanceMethod yX0_piecesAt, .selects RX0 yX0_piecesAt yX0_piecesAt, .code yX0_piecesAt cX0_piecesAt 4 (some .int), .fieldLink RX0 27 "GloveCutters" "pieceWhere" "[I", .methodLink RX0 200 yX0_pairsInUse, .instanceMethod yX0_pairsInUse, .selects RX0 yX0_pairsInUse yX0_pairsInUse, .code yX0_pairsInUse cX0_pairsInUse 3 (some .int), .fieldLink RX0 45 "GloveCutters" "pairRipped" "[Z"] ++ wsX00 ++ (vx_atS RX0 127 "java/lang/IndexOutOfBoundsException" ["java/lang/RuntimeException", "java/lang/Exception"]).filter goodWord)
def wsX0_givenBy_r1 : List Cond := [Cond.fieldLink RX0 18 "GloveCutters" "skinCells" "[[I", Cond.fieldLink RX0 49 "GloveCutters" "trialCells" "[I", Cond.methodLink RX0 213 arraycopyName, Cond.native arraycopyName, Cond.static arraycopyName, Cond.initialized "java/lang/System", Cond.methodLink RX0 112 yX0_wideOf, Cond.static yX0_wideOf, Cond.initialized RX0, Cond.code yX0_wideOf cX0_wideOf 2 (some .int), Cond.fieldLink RX0 204 "GloveCutters" "KIND_HIGH" "[I", Cond.fieldLink RX0 207 "GloveCutters" "KIND_WIDE" "[I", Cond.methodLink RX0 116 yX0_highOf, Cond.static yX0_highOf, Cond.code yX0_highOf cX0_highOf 2 (some .int), Cond.methodLink RX0 119 yX0_firstFit, Cond.static yX0_firstFit, Cond.code yX0_firstFit cX0_firstFit 5 (some .int), Cond.methodLink RX0 101 yX0_fits, Cond.static yX0_fits, Cond.code yX0_fits cX0_fits 7 (some .boolean), Cond.fieldLink RX0 210 "GloveCutters" "KIND_MOST_THIN" "[I", Cond.methodLink RX0 81 yX0_tally, Cond.static yX0_tally]
def wsX0_givenBy_r2 : List Cond := [Cond.code yX0_tally cX0_tally 9 (some .int), Cond.methodLink RX0 87 yX0_paint, Cond.static yX0_paint, Cond.code yX0_paint cX0_paint 8 none]
def wsX0_givenBy : List Cond := .code yX0_givenBy cX0_givenBy 8 (some .int) :: ((wsX0_givenBy_r1 ++ wsX0_givenBy_r2) ++ wsX00)
def wsX0_gives_r1 : List Cond := [Cond.methodLink RX0 67 yX0_needSkin, Cond.instanceMethod yX0_needSkin, Cond.selects RX0 yX0_needSkin yX0_needSkin, Cond.initialized RX0, Cond.code yX0_needSkin cX0_needSkin 2 none, Cond.classLink RX0 123 "java/lang/IndexOutOfBoundsException", Cond.initialized "java/lang/IndexOutOfBoundsException", Cond.fieldLink RX0 56 "GloveCutters" "skins" "I", Cond.methodLink RX0 98 yX0_needKind, Cond.static yX0_needKind, Cond.code yX0_needKind cX0_needKind 1 none, Cond.classLink RX0 74 "java/lang/IllegalArgumentException", Cond.initialized "java/lang/IllegalArgumentException", Cond.methodLink RX0 156 yX0_givenBy, Cond.instanceMethod yX0_givenBy, Cond.selects RX0 yX0_givenBy yX0_givenBy, Cond.code yX0_givenBy cX0_givenBy 8 (some .int), Cond.fieldLink RX0 18 "GloveCutters" "skinCells" "[[I", Cond.fieldLink RX0 49 "GloveCutters" "trialCells" "[I", Cond.methodLink RX0 213 arraycopyName, Cond.native arraycopyName, Cond.static arraycopyName, Cond.initialized "java/lang/System", Cond.methodLink RX0 112 yX0_wideOf]
def wsX0_gives_r2 : List Cond := [Cond.static yX0_wideOf, Cond.code yX0_wideOf cX0_wideOf 2 (some .int), Cond.fieldLink RX0 204 "GloveCutters" "KIND_HIGH" "[I", Cond.fieldLink RX0 207 "GloveCutters" "KIND_WIDE" "[I", Cond.methodLink RX0 116 yX0_highOf, Cond.static yX0_highOf, Cond.code yX0_highOf cX0_highOf 2 (some .int), Cond.methodLink RX0 119 yX0_firstFit, Cond.static yX0_firstFit, Cond.code yX0_firstFit cX0_firstFit 5 (some .int), Cond.methodLink RX0 101 yX0_fits, Cond.static yX0_fits, Cond.code yX0_fits cX0_fits 7 (some .boolean), Cond.fieldLink RX0 210 "GloveCutters" "KIND_MOST_THIN" "[I", Cond.methodLink RX0 81 yX0_tally, Cond.static yX0_tally, Cond.code yX0_tally cX0_tally 9 (some .int), Cond.methodLink RX0 87 yX0_paint, Cond.static yX0_paint, Cond.code yX0_paint cX0_paint 8 none]
def wsX0_gives : List Cond := .code yX0_gives cX0_gives 4 (some .int) :: ((wsX0_gives_r1 ++ wsX0_gives_r2) ++ wsX00 ++ (vx_atS RX0 127 "java/lang/IndexOutOfBoundsException" ["java/lang/RuntimeException", "java/lang/Exception"]).filter goodWord ++ (vx_atS RX0 78 "java/lang/IllegalArgumentException" ["java/lang/RuntimeException", "java/lang/Exception"]).filter goodWord)
def wsX0_best_r1 : List Cond := [Cond.fieldLink RX0 56 "GloveCutters" "skins" "I", Cond.methodLink RX0 98 yX0_needKind, Cond.static yX0_needKind, Cond.initialized RX0, Cond.code yX0_needKind cX0_needKind 1 none, Cond.classLink RX0 74 "java/lang/IllegalArgumentException", Cond.initialized "java/lang/IllegalArgumentException", Cond.methodLink RX0 156 yX0_givenBy, Cond.instanceMethod yX0_givenBy, Cond.selects RX0 yX0_givenBy yX0_givenBy, Cond.code yX0_givenBy cX0_givenBy 8 (some .int), Cond.fieldLink RX0 18 "GloveCutters" "skinCells" "[[I", Cond.fieldLink RX0 49 "GloveCutters" "trialCells" "[I", Cond.methodLink RX0 213 arraycopyName, Cond.native arraycopyName, Cond.static arraycopyName, Cond.initialized "java/lang/System", Cond.methodLink RX0 112 yX0_wideOf, Cond.static yX0_wideOf, Cond.code yX0_wideOf cX0_wideOf 2 (some .int), Cond.fieldLink RX0 204 "GloveCutters" "KIND_HIGH" "[I", Cond.fieldLink RX0 207 "GloveCutters" "KIND_WIDE" "[I", Cond.methodLink RX0 116 yX0_highOf, Cond.static yX0_highOf]
def wsX0_best_r2 : List Cond := [Cond.code yX0_highOf cX0_highOf 2 (some .int), Cond.methodLink RX0 119 yX0_firstFit, Cond.static yX0_firstFit, Cond.code yX0_firstFit cX0_firstFit 5 (some .int), Cond.methodLink RX0 101 yX0_fits, Cond.static yX0_fits, Cond.code yX0_fits cX0_fits 7 (some .boolean), Cond.fieldLink RX0 210 "GloveCutters" "KIND_MOST_THIN" "[I", Cond.methodLink RX0 81 yX0_tally, Cond.static yX0_tally, Cond.code yX0_tally cX0_tally 9 (some .int), Cond.methodLink RX0 87 yX0_paint, Cond.static yX0_paint, Cond.code yX0_paint cX0_paint 8 none]
def wsX0_best : List Cond := .code yX0_best cX0_best 7 (some .int) :: ((wsX0_best_r1 ++ wsX0_best_r2) ++ wsX00 ++ (vx_atS RX0 78 "java/lang/IllegalArgumentException" ["java/lang/RuntimeException", "java/lang/Exception"]).filter goodWord)
def wsX0_lacks_r1 : List Cond := [Cond.methodLink RX0 52 yX0_needColour, Cond.static yX0_needColour, Cond.initialized RX0, Cond.code yX0_needColour cX0_needColour 1 none, Cond.classLink RX0 74 "java/lang/IllegalArgumentException", Cond.initialized "java/lang/IllegalArgumentException", Cond.methodLink RX0 98 yX0_needKind, Cond.static yX0_needKind, Cond.code yX0_needKind cX0_needKind 1 none, Cond.methodLink RX0 131 yX0_lacking, Cond.instanceMethod yX0_lacking, Cond.selects RX0 yX0_lacking yX0_lacking, Cond.code yX0_lacking cX0_lacking 4 (some .int), Cond.fieldLink RX0 229 "GloveCutters" "KIND_IN_PAIR" "[I", Cond.methodLink RX0 226 Lib.Math.max.name, Cond.static Lib.Math.max.name, Cond.initialized "java/lang/Math", Cond.code Lib.Math.max.name Lib.Math.max.code 2 (some .int), Cond.methodLink RX0 232 yX0_mostTranksOfOneSkin, Cond.instanceMethod yX0_mostTranksOfOneSkin, Cond.selects RX0 yX0_mostTranksOfOneSkin yX0_mostTranksOfOneSkin, Cond.code yX0_mostTranksOfOneSkin cX0_mostTranksOfOneSkin 4 (some .int), Cond.fieldLink RX0 56 "GloveCutters" "skins" "I", Cond.fieldLink RX0 9 "GloveCutters" "skinColour" "[I"]
def wsX0_lacks_r2 : List Cond := [Cond.methodLink RX0 223 yX0_freeTranks, Cond.instanceMethod yX0_freeTranks, Cond.selects RX0 yX0_freeTranks yX0_freeTranks, Cond.code yX0_freeTranks cX0_freeTranks 4 (some .int), Cond.fieldLink RX0 107 "GloveCutters" "pieces" "I", Cond.fieldLink RX0 27 "GloveCutters" "pieceWhere" "[I", Cond.fieldLink RX0 24 "GloveCutters" "pieceKind" "[I", Cond.fieldLink RX0 21 "GloveCutters" "pieceSkin" "[I", Cond.methodLink RX0 163 yX0_freeOfColour, Cond.instanceMethod yX0_freeOfColour, Cond.selects RX0 yX0_freeOfColour yX0_freeOfColour, Cond.code yX0_freeOfColour cX0_freeOfColour 5 (some .int), Cond.methodLink RX0 219 yX0_isFreeOfColour, Cond.instanceMethod yX0_isFreeOfColour, Cond.selects RX0 yX0_isFreeOfColour yX0_isFreeOfColour, Cond.code yX0_isFreeOfColour cX0_isFreeOfColour 4 (some .boolean)]
def wsX0_lacks : List Cond := .code yX0_lacks cX0_lacks 3 (some .int) :: ((wsX0_lacks_r1 ++ wsX0_lacks_r2) ++ wsX00 ++ (vx_atS RX0 78 "java/lang/IllegalArgumentException" ["java/lang/RuntimeException", "java/lang/Exception"]).filter goodWord)
def wsX0_pairsFrom : List Cond := .code yX0_pairsFrom cX0_pairsFrom 3 (some .int) :: ([.fieldLink RX0 229 "GloveCutters" "KIND_IN_PAIR" "[I"])
def wsX0_trankPairs : List Cond := .code yX0_trankPairs cX0_trankPairs 4 (some .int) :: ([.fieldLink RX0 56 "GloveCutters" "skins" "I", .fieldLink RX0 9 "GloveCutters" "skinColour" "[I", .methodLink RX0 223 yX0_freeTranks, .instanceMethod yX0_freeTranks, .selects RX0 yX0_freeTranks yX0_freeTranks, .initialized RX0, .code yX0_freeTranks cX0_freeTranks 4 (some .int), .fieldLink RX0 107 "GloveCutters" "pieces" "I", .fieldLink RX0 27 "GloveCutters" "pieceWhere" "[I", .fieldLink RX0 24 "GloveCutters" "pieceKind" "[I", .fieldLink RX0 21 "GloveCutters" "pieceSkin" "[I", .methodLink RX0 166 yX0_pairsFrom, .static yX0_pairsFrom, .code yX0_pairsFrom cX0_pairsFrom 3 (some .int), .fieldLink RX0 229 "GloveCutters" "KIND_IN_PAIR" "[I"] ++ wsX00)
def wsX0_pairs_r1 : List Cond := [Cond.methodLink RX0 169 Lib.Math.min.name, Cond.static Lib.Math.min.name, Cond.initialized "java/lang/Math", Cond.code Lib.Math.min.name Lib.Math.min.code 2 (some .int), Cond.methodLink RX0 52 yX0_needColour, Cond.static yX0_needColour, Cond.initialized RX0, Cond.code yX0_needColour cX0_needColour 1 none, Cond.classLink RX0 74 "java/lang/IllegalArgumentException", Cond.initialized "java/lang/IllegalArgumentException", Cond.methodLink RX0 160 yX0_trankPairs, Cond.instanceMethod yX0_trankPairs, Cond.selects RX0 yX0_trankPairs yX0_trankPairs, Cond.code yX0_trankPairs cX0_trankPairs 4 (some .int), Cond.fieldLink RX0 56 "GloveCutters" "skins" "I", Cond.fieldLink RX0 9 "GloveCutters" "skinColour" "[I", Cond.methodLink RX0 223 yX0_freeTranks, Cond.instanceMethod yX0_freeTranks, Cond.selects RX0 yX0_freeTranks yX0_freeTranks, Cond.code yX0_freeTranks cX0_freeTranks 4 (some .int), Cond.fieldLink RX0 107 "GloveCutters" "pieces" "I", Cond.fieldLink RX0 27 "GloveCutters" "pieceWhere" "[I", Cond.fieldLink RX0 24 "GloveCutters" "pieceKind" "[I", Cond.fieldLink RX0 21 "GloveCutters" "pieceSkin" "[I"]
def wsX0_pairs_r2 : List Cond := [Cond.methodLink RX0 166 yX0_pairsFrom, Cond.static yX0_pairsFrom, Cond.code yX0_pairsFrom cX0_pairsFrom 3 (some .int), Cond.fieldLink RX0 229 "GloveCutters" "KIND_IN_PAIR" "[I", Cond.methodLink RX0 163 yX0_freeOfColour, Cond.instanceMethod yX0_freeOfColour, Cond.selects RX0 yX0_freeOfColour yX0_freeOfColour, Cond.code yX0_freeOfColour cX0_freeOfColour 5 (some .int), Cond.methodLink RX0 219 yX0_isFreeOfColour, Cond.instanceMethod yX0_isFreeOfColour, Cond.selects RX0 yX0_isFreeOfColour yX0_isFreeOfColour, Cond.code yX0_isFreeOfColour cX0_isFreeOfColour 4 (some .boolean)]
def wsX0_pairs : List Cond := .code yX0_pairs cX0_pairs 4 (some .int) :: ((wsX0_pairs_r1 ++ wsX0_pairs_r2) ++ wsX00 ++ (vx_atS RX0 78 "java/lang/IllegalArgumentException" ["java/lang/RuntimeException", "java/lang/Exception"]).filter goodWord)
def wsX0_share : List Cond := .code yX0_share cX0_share 4 (some .double) :: ([.fieldLink RX0 56 "GloveCutters" "skins" "I", .methodLink RX0 174 yX0_tallySkin, .instanceMethod yX0_tallySkin, .selects RX0 yX0_tallySkin yX0_tallySkin, .initialized RX0, .code yX0_tallySkin cX0_tallySkin 3 (some .int), .fieldLink RX0 18 "GloveCutters" "skinCells" "[[I", .methodLink RX0 81 yX0_tally, .static yX0_tally, .code yX0_tally cX0_tally 9 (some .int)] ++ wsX00)
def wsX0_digestSkin : List Cond := .code yX0_digestSkin cX0_digestSkin 7 (some .long) :: ([.constantLong RX0 179 (31), .fieldLink RX0 18 "GloveCutters" "skinCells" "[[I", .methodLink RX0 94 yX0_tellSkin, .instanceMethod yX0_tellSkin, .selects RX0 yX0_tellSkin yX0_tellSkin, .initialized RX0, .code yX0_tellSkin cX0_tellSkin 3 (some .int), .fieldLink RX0 9 "GloveCutters" "skinColour" "[I", .fieldLink RX0 13 "GloveCutters" "skinPieces" "[I", .methodLink RX0 174 yX0_tallySkin, .instanceMethod yX0_tallySkin, .selects RX0 yX0_tallySkin yX0_tallySkin, .code yX0_tallySkin cX0_tallySkin 3 (some .int), .methodLink RX0 81 yX0_tally, .static yX0_tally, .code yX0_tally cX0_tally 9 (some .int)] ++ wsX00)
def wsX0_digest_r1 : List Cond := [Cond.constantLong RX0 177 (1087), Cond.constantLong RX0 179 (31), Cond.fieldLink RX0 56 "GloveCutters" "skins" "I", Cond.fieldLink RX0 107 "GloveCutters" "pieces" "I", Cond.fieldLink RX0 136 "GloveCutters" "sewn" "I", Cond.methodLink RX0 152 yX0_tellCount, Cond.instanceMethod yX0_tellCount, Cond.selects RX0 yX0_tellCount yX0_tellCount, Cond.initialized RX0, Cond.code yX0_tellCount cX0_tellCount 2 (some .int), Cond.methodLink RX0 197 yX0_piecesAt, Cond.instanceMethod yX0_piecesAt, Cond.selects RX0 yX0_piecesAt yX0_piecesAt, Cond.code yX0_piecesAt cX0_piecesAt 4 (some .int), Cond.fieldLink RX0 27 "GloveCutters" "pieceWhere" "[I", Cond.methodLink RX0 200 yX0_pairsInUse, Cond.instanceMethod yX0_pairsInUse, Cond.selects RX0 yX0_pairsInUse yX0_pairsInUse, Cond.code yX0_pairsInUse cX0_pairsInUse 3 (some .int), Cond.fieldLink RX0 45 "GloveCutters" "pairRipped" "[Z", Cond.methodLink RX0 181 yX0_digestSkin, Cond.instanceMethod yX0_digestSkin, Cond.selects RX0 yX0_digestSkin yX0_digestSkin, Cond.code yX0_digestSkin cX0_digestSkin 7 (some .long)]
def wsX0_digest_r2 : List Cond := [Cond.fieldLink RX0 18 "GloveCutters" "skinCells" "[[I", Cond.methodLink RX0 94 yX0_tellSkin, Cond.instanceMethod yX0_tellSkin, Cond.selects RX0 yX0_tellSkin yX0_tellSkin, Cond.code yX0_tellSkin cX0_tellSkin 3 (some .int), Cond.fieldLink RX0 9 "GloveCutters" "skinColour" "[I", Cond.fieldLink RX0 13 "GloveCutters" "skinPieces" "[I", Cond.methodLink RX0 174 yX0_tallySkin, Cond.instanceMethod yX0_tallySkin, Cond.selects RX0 yX0_tallySkin yX0_tallySkin, Cond.code yX0_tallySkin cX0_tallySkin 3 (some .int), Cond.methodLink RX0 81 yX0_tally, Cond.static yX0_tally, Cond.code yX0_tally cX0_tally 9 (some .int), Cond.methodLink RX0 128 yX0_tellPiece, Cond.instanceMethod yX0_tellPiece, Cond.selects RX0 yX0_tellPiece yX0_tellPiece, Cond.code yX0_tellPiece cX0_tellPiece 3 (some .int), Cond.fieldLink RX0 21 "GloveCutters" "pieceSkin" "[I", Cond.fieldLink RX0 24 "GloveCutters" "pieceKind" "[I", Cond.fieldLink RX0 30 "GloveCutters" "pieceThin" "[I", Cond.methodLink RX0 149 yX0_tellPair, Cond.instanceMethod yX0_tellPair, Cond.selects RX0 yX0_tellPair yX0_tellPair]
def wsX0_digest_r3 : List Cond := [Cond.code yX0_tellPair cX0_tellPair 3 (some .int), Cond.fieldLink RX0 33 "GloveCutters" "pairColour" "[I", Cond.fieldLink RX0 36 "GloveCutters" "pairTrankSkin" "[I", Cond.fieldLink RX0 39 "GloveCutters" "pairSkins" "[I", Cond.fieldLink RX0 42 "GloveCutters" "pairThin" "[I"]
def wsX0_digest : List Cond := .code yX0_digest cX0_digest 5 (some .long) :: ((wsX0_digest_r1 ++ (wsX0_digest_r2 ++ wsX0_digest_r3)) ++ wsX00)
def wsX1_init : List Cond := .code yX1_init cX1_init 1 none :: ([.methodLink RX1 3 objectInit, .instanceMethod objectInit, .code objectInit ⟨#[0xb1]⟩ 1 none, .arrayClass .int, .fieldLink RX1 9 "GloveCuttersModel" "colour" "[I", .fieldLink RX1 13 "GloveCuttersModel" "cells" "[I", .fieldLink RX1 16 "GloveCuttersModel" "skinOf" "[I", .fieldLink RX1 19 "GloveCuttersModel" "kindOf" "[I", .fieldLink RX1 22 "GloveCuttersModel" "pairOf" "[I", .fieldLink RX1 25 "GloveCuttersModel" "thinOf" "[I", .fieldLink RX1 28 "GloveCuttersModel" "book" "[I", .fieldLink RX1 31 "GloveCuttersModel" "trial" "[I"] ++ wsX10)
def wsX1_thrown : List Cond := .code yX1_thrown cX1_thrown 1 (some .int) :: ([.fieldLink RX1 34 "GloveCuttersModel" "thrown" "I"] ++ wsX10)
def wsX1_no : List Cond := .code yX1_no cX1_no 2 (some .int) :: ([.fieldLink RX1 34 "GloveCuttersModel" "thrown" "I"] ++ wsX10)
def wsX1_isIn : List Cond := .code yX1_isIn cX1_isIn 3 (some .boolean) :: ([])
def wsX1_isSkin : List Cond := .code yX1_isSkin cX1_isSkin 2 (some .boolean) :: ([.fieldLink RX1 38 "GloveCuttersModel" "skins" "I", .methodLink RX1 41 yX1_isIn, .static yX1_isIn, .initialized RX1, .code yX1_isIn cX1_isIn 3 (some .boolean)] ++ wsX10)
def wsX1_isKind : List Cond := .code yX1_isKind cX1_isKind 1 (some .boolean) :: ([.methodLink RX1 41 yX1_isIn, .static yX1_isIn, .initialized RX1, .code yX1_isIn cX1_isIn 3 (some .boolean)])
def wsX1_isColour : List Cond := .code yX1_isColour cX1_isColour 1 (some .boolean) :: ([.methodLink RX1 41 yX1_isIn, .static yX1_isIn, .initialized RX1, .code yX1_isIn cX1_isIn 3 (some .boolean)])
def wsX1_isCell : List Cond := .code yX1_isCell cX1_isCell 4 (some .boolean) :: ([.methodLink RX1 45 yX1_isSkin, .instanceMethod yX1_isSkin, .selects RX1 yX1_isSkin yX1_isSkin, .initialized RX1, .code yX1_isSkin cX1_isSkin 2 (some .boolean), .fieldLink RX1 38 "GloveCuttersModel" "skins" "I", .methodLink RX1 41 yX1_isIn, .static yX1_isIn, .code yX1_isIn cX1_isIn 3 (some .boolean)] ++ wsX10)
def wsX1_lay : List Cond := .code yX1_lay cX1_lay 2 (some .int) :: ([.fieldLink RX1 34 "GloveCuttersModel" "thrown" "I", .fieldLink RX1 38 "GloveCuttersModel" "skins" "I", .fieldLink RX1 9 "GloveCuttersModel" "colour" "[I", .methodLink RX1 49 yX1_isColour, .static yX1_isColour, .initialized RX1, .code yX1_isColour cX1_isColour 1 (some .boolean), .methodLink RX1 41 yX1_isIn, .static yX1_isIn, .code yX1_isIn cX1_isIn 3 (some .boolean), .methodLink RX1 52 yX1_no, .instanceMethod yX1_no, .selects RX1 yX1_no yX1_no, .code yX1_no cX1_no 2 (some .int)] ++ wsX10)
def wsX1_many : List Cond := .code yX1_many cX1_many 7 (some .int) :: ([])
def wsX1_fill : List Cond := .code yX1_fill cX1_fill 6 none :: ([])
def wsX1_mark_r1 : List Cond := [Cond.fieldLink RX1 34 "GloveCuttersModel" "thrown" "I", Cond.fieldLink RX1 13 "GloveCuttersModel" "cells" "[I", Cond.methodLink RX1 56 yX1_isCell, Cond.instanceMethod yX1_isCell, Cond.selects RX1 yX1_isCell yX1_isCell, Cond.initialized RX1, Cond.code yX1_isCell cX1_isCell 4 (some .boolean), Cond.methodLink RX1 45 yX1_isSkin, Cond.instanceMethod yX1_isSkin, Cond.selects RX1 yX1_isSkin yX1_isSkin, Cond.code yX1_isSkin cX1_isSkin 2 (some .boolean), Cond.fieldLink RX1 38 "GloveCuttersModel" "skins" "I", Cond.methodLink RX1 41 yX1_isIn, Cond.static yX1_isIn, Cond.code yX1_isIn cX1_isIn 3 (some .boolean), Cond.methodLink RX1 52 yX1_no, Cond.instanceMethod yX1_no, Cond.selects RX1 yX1_no yX1_no, Cond.code yX1_no cX1_no 2 (some .int), Cond.methodLink RX1 59 yX1_many, Cond.static yX1_many, Cond.code yX1_many cX1_many 7 (some .int), Cond.methodLink RX1 63 yX1_fill, Cond.static yX1_fill]
def wsX1_mark_r2 : List Cond := [Cond.code yX1_fill cX1_fill 6 none]
def wsX1_mark : List Cond := .code yX1_mark cX1_mark 9 (some .int) :: ((wsX1_mark_r1 ++ wsX1_mark_r2) ++ wsX10)
def wsX1_cell : List Cond := .code yX1_cell cX1_cell 4 (some .int) :: ([.fieldLink RX1 34 "GloveCuttersModel" "thrown" "I", .fieldLink RX1 13 "GloveCuttersModel" "cells" "[I", .methodLink RX1 56 yX1_isCell, .instanceMethod yX1_isCell, .selects RX1 yX1_isCell yX1_isCell, .initialized RX1, .code yX1_isCell cX1_isCell 4 (some .boolean), .methodLink RX1 45 yX1_isSkin, .instanceMethod yX1_isSkin, .selects RX1 yX1_isSkin yX1_isSkin, .code yX1_isSkin cX1_isSkin 2 (some .boolean), .fieldLink RX1 38 "GloveCuttersModel" "skins" "I", .methodLink RX1 41 yX1_isIn, .static yX1_isIn, .code yX1_isIn cX1_isIn 3 (some .boolean), .methodLink RX1 52 yX1_no, .instanceMethod yX1_no, .selects RX1 yX1_no yX1_no, .code yX1_no cX1_no 2 (some .int)] ++ wsX10)
def wsX1_piecesOf : List Cond := .code yX1_piecesOf cX1_piecesOf 4 (some .int) :: ([.fieldLink RX1 67 "GloveCuttersModel" "pieces" "I", .fieldLink RX1 16 "GloveCuttersModel" "skinOf" "[I"] ++ wsX10)
def wsX1_skinTold : List Cond := .code yX1_skinTold cX1_skinTold 3 (some .int) :: ([.fieldLink RX1 9 "GloveCuttersModel" "colour" "[I", .fieldLink RX1 13 "GloveCuttersModel" "cells" "[I", .methodLink RX1 70 yX1_piecesOf, .instanceMethod yX1_piecesOf, .selects RX1 yX1_piecesOf yX1_piecesOf, .initialized RX1, .code yX1_piecesOf cX1_piecesOf 4 (some .int), .fieldLink RX1 67 "GloveCuttersModel" "pieces" "I", .fieldLink RX1 16 "GloveCuttersModel" "skinOf" "[I", .methodLink RX1 59 yX1_many, .static yX1_many, .code yX1_many cX1_many 7 (some .int)] ++ wsX10)
def wsX1_skin_r1 : List Cond := [Cond.fieldLink RX1 34 "GloveCuttersModel" "thrown" "I", Cond.methodLink RX1 45 yX1_isSkin, Cond.instanceMethod yX1_isSkin, Cond.selects RX1 yX1_isSkin yX1_isSkin, Cond.initialized RX1, Cond.code yX1_isSkin cX1_isSkin 2 (some .boolean), Cond.fieldLink RX1 38 "GloveCuttersModel" "skins" "I", Cond.methodLink RX1 41 yX1_isIn, Cond.static yX1_isIn, Cond.code yX1_isIn cX1_isIn 3 (some .boolean), Cond.methodLink RX1 73 yX1_skinTold, Cond.instanceMethod yX1_skinTold, Cond.selects RX1 yX1_skinTold yX1_skinTold, Cond.code yX1_skinTold cX1_skinTold 3 (some .int), Cond.fieldLink RX1 9 "GloveCuttersModel" "colour" "[I", Cond.fieldLink RX1 13 "GloveCuttersModel" "cells" "[I", Cond.methodLink RX1 70 yX1_piecesOf, Cond.instanceMethod yX1_piecesOf, Cond.selects RX1 yX1_piecesOf yX1_piecesOf, Cond.code yX1_piecesOf cX1_piecesOf 4 (some .int), Cond.fieldLink RX1 67 "GloveCuttersModel" "pieces" "I", Cond.fieldLink RX1 16 "GloveCuttersModel" "skinOf" "[I", Cond.methodLink RX1 59 yX1_many, Cond.static yX1_many]
def wsX1_skin_r2 : List Cond := [Cond.code yX1_many cX1_many 7 (some .int), Cond.methodLink RX1 52 yX1_no, Cond.instanceMethod yX1_no, Cond.selects RX1 yX1_no yX1_no, Cond.code yX1_no cX1_no 2 (some .int)]
def wsX1_skin : List Cond := .code yX1_skin cX1_skin 3 (some .int) :: ((wsX1_skin_r1 ++ wsX1_skin_r2) ++ wsX10)
def wsX1_wideOf : List Cond := .code yX1_wideOf cX1_wideOf 2 (some .int) :: ([.fieldLink RX1 77 "GloveCuttersModel" "DOWN" "[I", .fieldLink RX1 80 "GloveCuttersModel" "ACROSS" "[I"])
def wsX1_highOf : List Cond := .code yX1_highOf cX1_highOf 2 (some .int) :: ([.fieldLink RX1 80 "GloveCuttersModel" "ACROSS" "[I", .fieldLink RX1 77 "GloveCuttersModel" "DOWN" "[I"])
def wsX1_can : List Cond := .code yX1_can cX1_can 9 (some .boolean) :: ([.methodLink RX1 83 yX1_wideOf, .static yX1_wideOf, .initialized RX1, .code yX1_wideOf cX1_wideOf 2 (some .int), .fieldLink RX1 77 "GloveCuttersModel" "DOWN" "[I", .fieldLink RX1 80 "GloveCuttersModel" "ACROSS" "[I", .methodLink RX1 87 yX1_highOf, .static yX1_highOf, .code yX1_highOf cX1_highOf 2 (some .int), .methodLink RX1 59 yX1_many, .static yX1_many, .code yX1_many cX1_many 7 (some .int)])
def wsX1_first : List Cond := .code yX1_first cX1_first 5 (some .int) :: ([.methodLink RX1 90 yX1_can, .static yX1_can, .initialized RX1, .code yX1_can cX1_can 9 (some .boolean), .methodLink RX1 83 yX1_wideOf, .static yX1_wideOf, .code yX1_wideOf cX1_wideOf 2 (some .int), .fieldLink RX1 77 "GloveCuttersModel" "DOWN" "[I", .fieldLink RX1 80 "GloveCuttersModel" "ACROSS" "[I", .methodLink RX1 87 yX1_highOf, .static yX1_highOf, .code yX1_highOf cX1_highOf 2 (some .int), .methodLink RX1 59 yX1_many, .static yX1_many, .code yX1_many cX1_many 7 (some .int)])
def wsX1_cut_r1 : List Cond := [Cond.fieldLink RX1 34 "GloveCuttersModel" "thrown" "I", Cond.fieldLink RX1 67 "GloveCuttersModel" "pieces" "I", Cond.fieldLink RX1 13 "GloveCuttersModel" "cells" "[I", Cond.fieldLink RX1 16 "GloveCuttersModel" "skinOf" "[I", Cond.fieldLink RX1 19 "GloveCuttersModel" "kindOf" "[I", Cond.fieldLink RX1 22 "GloveCuttersModel" "pairOf" "[I", Cond.fieldLink RX1 25 "GloveCuttersModel" "thinOf" "[I", Cond.methodLink RX1 56 yX1_isCell, Cond.instanceMethod yX1_isCell, Cond.selects RX1 yX1_isCell yX1_isCell, Cond.initialized RX1, Cond.code yX1_isCell cX1_isCell 4 (some .boolean), Cond.methodLink RX1 45 yX1_isSkin, Cond.instanceMethod yX1_isSkin, Cond.selects RX1 yX1_isSkin yX1_isSkin, Cond.code yX1_isSkin cX1_isSkin 2 (some .boolean), Cond.fieldLink RX1 38 "GloveCuttersModel" "skins" "I", Cond.methodLink RX1 41 yX1_isIn, Cond.static yX1_isIn, Cond.code yX1_isIn cX1_isIn 3 (some .boolean), Cond.methodLink RX1 52 yX1_no, Cond.instanceMethod yX1_no, Cond.selects RX1 yX1_no yX1_no, Cond.code yX1_no cX1_no 2 (some .int)]
def wsX1_cut_r2 : List Cond := [Cond.methodLink RX1 94 yX1_isKind, Cond.static yX1_isKind, Cond.code yX1_isKind cX1_isKind 1 (some .boolean), Cond.methodLink RX1 90 yX1_can, Cond.static yX1_can, Cond.code yX1_can cX1_can 9 (some .boolean), Cond.methodLink RX1 83 yX1_wideOf, Cond.static yX1_wideOf, Cond.code yX1_wideOf cX1_wideOf 2 (some .int), Cond.fieldLink RX1 77 "GloveCuttersModel" "DOWN" "[I", Cond.fieldLink RX1 80 "GloveCuttersModel" "ACROSS" "[I", Cond.methodLink RX1 87 yX1_highOf, Cond.static yX1_highOf, Cond.code yX1_highOf cX1_highOf 2 (some .int), Cond.methodLink RX1 59 yX1_many, Cond.static yX1_many, Cond.code yX1_many cX1_many 7 (some .int), Cond.methodLink RX1 63 yX1_fill, Cond.static yX1_fill, Cond.code yX1_fill cX1_fill 6 none]
def wsX1_cut : List Cond := .code yX1_cut cX1_cut 8 (some .int) :: ((wsX1_cut_r1 ++ wsX1_cut_r2) ++ wsX10)
def wsX1_place_r1 : List Cond := [Cond.fieldLink RX1 34 "GloveCuttersModel" "thrown" "I", Cond.fieldLink RX1 13 "GloveCuttersModel" "cells" "[I", Cond.methodLink RX1 45 yX1_isSkin, Cond.instanceMethod yX1_isSkin, Cond.selects RX1 yX1_isSkin yX1_isSkin, Cond.initialized RX1, Cond.code yX1_isSkin cX1_isSkin 2 (some .boolean), Cond.fieldLink RX1 38 "GloveCuttersModel" "skins" "I", Cond.methodLink RX1 41 yX1_isIn, Cond.static yX1_isIn, Cond.code yX1_isIn cX1_isIn 3 (some .boolean), Cond.methodLink RX1 52 yX1_no, Cond.instanceMethod yX1_no, Cond.selects RX1 yX1_no yX1_no, Cond.code yX1_no cX1_no 2 (some .int), Cond.methodLink RX1 94 yX1_isKind, Cond.static yX1_isKind, Cond.code yX1_isKind cX1_isKind 1 (some .boolean), Cond.methodLink RX1 97 yX1_first, Cond.static yX1_first, Cond.code yX1_first cX1_first 5 (some .int), Cond.methodLink RX1 90 yX1_can, Cond.static yX1_can, Cond.code yX1_can cX1_can 9 (some .boolean)]
def wsX1_place_r2 : List Cond := [Cond.methodLink RX1 83 yX1_wideOf, Cond.static yX1_wideOf, Cond.code yX1_wideOf cX1_wideOf 2 (some .int), Cond.fieldLink RX1 77 "GloveCuttersModel" "DOWN" "[I", Cond.fieldLink RX1 80 "GloveCuttersModel" "ACROSS" "[I", Cond.methodLink RX1 87 yX1_highOf, Cond.static yX1_highOf, Cond.code yX1_highOf cX1_highOf 2 (some .int), Cond.methodLink RX1 59 yX1_many, Cond.static yX1_many, Cond.code yX1_many cX1_many 7 (some .int)]
def wsX1_place : List Cond := .code yX1_place cX1_place 4 (some .int) :: ((wsX1_place_r1 ++ wsX1_place_r2) ++ wsX10)
def wsX1_pieceTold : List Cond := .code yX1_pieceTold cX1_pieceTold 3 (some .int) :: ([.fieldLink RX1 16 "GloveCuttersModel" "skinOf" "[I", .fieldLink RX1 19 "GloveCuttersModel" "kindOf" "[I", .fieldLink RX1 22 "GloveCuttersModel" "pairOf" "[I", .fieldLink RX1 25 "GloveCuttersModel" "thinOf" "[I"] ++ wsX10)
def wsX1_piece : List Cond := .code yX1_piece cX1_piece 3 (some .int) :: ([.fieldLink RX1 34 "GloveCuttersModel" "thrown" "I", .fieldLink RX1 67 "GloveCuttersModel" "pieces" "I", .methodLink RX1 41 yX1_isIn, .static yX1_isIn, .initialized RX1, .code yX1_isIn cX1_isIn 3 (some .boolean), .methodLink RX1 101 yX1_pieceTold, .instanceMethod yX1_pieceTold, .selects RX1 yX1_pieceTold yX1_pieceTold, .code yX1_pieceTold cX1_pieceTold 3 (some .int), .fieldLink RX1 16 "GloveCuttersModel" "skinOf" "[I", .fieldLink RX1 19 "GloveCuttersModel" "kindOf" "[I", .fieldLink RX1 22 "GloveCuttersModel" "pairOf" "[I", .fieldLink RX1 25 "GloveCuttersModel" "thinOf" "[I", .methodLink RX1 52 yX1_no, .instanceMethod yX1_no, .selects RX1 yX1_no yX1_no, .code yX1_no cX1_no 2 (some .int)] ++ wsX10)
def wsX1_isFree : List Cond := .code yX1_isFree cX1_isFree 4 (some .boolean) :: ([.fieldLink RX1 22 "GloveCuttersModel" "pairOf" "[I", .fieldLink RX1 19 "GloveCuttersModel" "kindOf" "[I", .fieldLink RX1 9 "GloveCuttersModel" "colour" "[I", .fieldLink RX1 16 "GloveCuttersModel" "skinOf" "[I"] ++ wsX10)
def wsX1_free : List Cond := .code yX1_free cX1_free 5 (some .int) :: ([.fieldLink RX1 67 "GloveCuttersModel" "pieces" "I", .methodLink RX1 104 yX1_isFree, .instanceMethod yX1_isFree, .selects RX1 yX1_isFree yX1_isFree, .initialized RX1, .code yX1_isFree cX1_isFree 4 (some .boolean), .fieldLink RX1 22 "GloveCuttersModel" "pairOf" "[I", .fieldLink RX1 19 "GloveCuttersModel" "kindOf" "[I", .fieldLink RX1 9 "GloveCuttersModel" "colour" "[I", .fieldLink RX1 16 "GloveCuttersModel" "skinOf" "[I"] ++ wsX10)
def wsX1_tranks : List Cond := .code yX1_tranks cX1_tranks 4 (some .int) :: ([.fieldLink RX1 67 "GloveCuttersModel" "pieces" "I", .fieldLink RX1 16 "GloveCuttersModel" "skinOf" "[I", .fieldLink RX1 9 "GloveCuttersModel" "colour" "[I", .methodLink RX1 104 yX1_isFree, .instanceMethod yX1_isFree, .selects RX1 yX1_isFree yX1_isFree, .initialized RX1, .code yX1_isFree cX1_isFree 4 (some .boolean), .fieldLink RX1 22 "GloveCuttersModel" "pairOf" "[I", .fieldLink RX1 19 "GloveCuttersModel" "kindOf" "[I"] ++ wsX10)
def wsX1_trankSkin : List Cond := .code yX1_trankSkin cX1_trankSkin 3 (some .int) :: ([.fieldLink RX1 38 "GloveCuttersModel" "skins" "I", .fieldLink RX1 9 "GloveCuttersModel" "colour" "[I", .methodLink RX1 107 yX1_tranks, .instanceMethod yX1_tranks, .selects RX1 yX1_tranks yX1_tranks, .initialized RX1, .code yX1_tranks cX1_tranks 4 (some .int), .fieldLink RX1 67 "GloveCuttersModel" "pieces" "I", .fieldLink RX1 16 "GloveCuttersModel" "skinOf" "[I", .methodLink RX1 104 yX1_isFree, .instanceMethod yX1_isFree, .selects RX1 yX1_isFree yX1_isFree, .code yX1_isFree cX1_isFree 4 (some .boolean), .fieldLink RX1 22 "GloveCuttersModel" "pairOf" "[I", .fieldLink RX1 19 "GloveCuttersModel" "kindOf" "[I"] ++ wsX10)
def wsX1_canSew : List Cond := .code yX1_canSew cX1_canSew 4 (some .boolean) :: ([.fieldLink RX1 116 "GloveCuttersModel" "NEEDS" "[I", .methodLink RX1 110 yX1_trankSkin, .instanceMethod yX1_trankSkin, .selects RX1 yX1_trankSkin yX1_trankSkin, .initialized RX1, .code yX1_trankSkin cX1_trankSkin 3 (some .int), .fieldLink RX1 38 "GloveCuttersModel" "skins" "I", .fieldLink RX1 9 "GloveCuttersModel" "colour" "[I", .methodLink RX1 107 yX1_tranks, .instanceMethod yX1_tranks, .selects RX1 yX1_tranks yX1_tranks, .code yX1_tranks cX1_tranks 4 (some .int), .fieldLink RX1 67 "GloveCuttersModel" "pieces" "I", .fieldLink RX1 16 "GloveCuttersModel" "skinOf" "[I", .methodLink RX1 104 yX1_isFree, .instanceMethod yX1_isFree, .selects RX1 yX1_isFree yX1_isFree, .code yX1_isFree cX1_isFree 4 (some .boolean), .fieldLink RX1 22 "GloveCuttersModel" "pairOf" "[I", .fieldLink RX1 19 "GloveCuttersModel" "kindOf" "[I", .methodLink RX1 113 yX1_free, .instanceMethod yX1_free, .selects RX1 yX1_free yX1_free, .code yX1_free cX1_free 5 (some .int)] ++ wsX10)
def wsX1_take : List Cond := .code yX1_take cX1_take 6 none :: ([.fieldLink RX1 116 "GloveCuttersModel" "NEEDS" "[I", .fieldLink RX1 67 "GloveCuttersModel" "pieces" "I", .fieldLink RX1 16 "GloveCuttersModel" "skinOf" "[I", .fieldLink RX1 22 "GloveCuttersModel" "pairOf" "[I", .fieldLink RX1 119 "GloveCuttersModel" "pairs" "I", .methodLink RX1 104 yX1_isFree, .instanceMethod yX1_isFree, .selects RX1 yX1_isFree yX1_isFree, .initialized RX1, .code yX1_isFree cX1_isFree 4 (some .boolean), .fieldLink RX1 19 "GloveCuttersModel" "kindOf" "[I", .fieldLink RX1 9 "GloveCuttersModel" "colour" "[I"] ++ wsX10)
def wsX1_sew_r1 : List Cond := [Cond.fieldLink RX1 34 "GloveCuttersModel" "thrown" "I", Cond.fieldLink RX1 119 "GloveCuttersModel" "pairs" "I", Cond.fieldLink RX1 67 "GloveCuttersModel" "pieces" "I", Cond.fieldLink RX1 22 "GloveCuttersModel" "pairOf" "[I", Cond.fieldLink RX1 16 "GloveCuttersModel" "skinOf" "[I", Cond.fieldLink RX1 25 "GloveCuttersModel" "thinOf" "[I", Cond.arrayClass .int, Cond.fieldLink RX1 28 "GloveCuttersModel" "book" "[I", Cond.methodLink RX1 134 arraycopyName, Cond.native arraycopyName, Cond.static arraycopyName, Cond.initialized "java/lang/System", Cond.methodLink RX1 49 yX1_isColour, Cond.static yX1_isColour, Cond.initialized RX1, Cond.code yX1_isColour cX1_isColour 1 (some .boolean), Cond.methodLink RX1 41 yX1_isIn, Cond.static yX1_isIn, Cond.code yX1_isIn cX1_isIn 3 (some .boolean), Cond.methodLink RX1 52 yX1_no, Cond.instanceMethod yX1_no, Cond.selects RX1 yX1_no yX1_no, Cond.code yX1_no cX1_no 2 (some .int), Cond.methodLink RX1 122 yX1_canSew]
def wsX1_sew_r2 : List Cond := [Cond.instanceMethod yX1_canSew, Cond.selects RX1 yX1_canSew yX1_canSew, Cond.code yX1_canSew cX1_canSew 4 (some .boolean), Cond.fieldLink RX1 116 "GloveCuttersModel" "NEEDS" "[I", Cond.methodLink RX1 110 yX1_trankSkin, Cond.instanceMethod yX1_trankSkin, Cond.selects RX1 yX1_trankSkin yX1_trankSkin, Cond.code yX1_trankSkin cX1_trankSkin 3 (some .int), Cond.fieldLink RX1 38 "GloveCuttersModel" "skins" "I", Cond.fieldLink RX1 9 "GloveCuttersModel" "colour" "[I", Cond.methodLink RX1 107 yX1_tranks, Cond.instanceMethod yX1_tranks, Cond.selects RX1 yX1_tranks yX1_tranks, Cond.code yX1_tranks cX1_tranks 4 (some .int), Cond.methodLink RX1 104 yX1_isFree, Cond.instanceMethod yX1_isFree, Cond.selects RX1 yX1_isFree yX1_isFree, Cond.code yX1_isFree cX1_isFree 4 (some .boolean), Cond.fieldLink RX1 19 "GloveCuttersModel" "kindOf" "[I", Cond.methodLink RX1 113 yX1_free, Cond.instanceMethod yX1_free, Cond.selects RX1 yX1_free yX1_free, Cond.code yX1_free cX1_free 5 (some .int), Cond.methodLink RX1 125 yX1_take]
def wsX1_sew_r3 : List Cond := [Cond.instanceMethod yX1_take, Cond.selects RX1 yX1_take yX1_take, Cond.code yX1_take cX1_take 6 none, Cond.methodLink RX1 129 yJ6_bitCount_0f7a4, Cond.static yJ6_bitCount_0f7a4, Cond.initialized RJ6, Cond.code yJ6_bitCount_0f7a4 cJ6_bitCount_0f7a4 1 (some .int), Cond.constant RJ6 265 (1431655765), Cond.constant RJ6 266 (858993459), Cond.constant RJ6 267 (252645135)]
def wsX1_sew : List Cond := .code yX1_sew cX1_sew 6 (some .int) :: ((wsX1_sew_r1 ++ (wsX1_sew_r2 ++ wsX1_sew_r3)) ++ wsX10)
def wsX1_rip : List Cond := .code yX1_rip cX1_rip 4 (some .int) :: ([.fieldLink RX1 34 "GloveCuttersModel" "thrown" "I", .fieldLink RX1 119 "GloveCuttersModel" "pairs" "I", .fieldLink RX1 28 "GloveCuttersModel" "book" "[I", .fieldLink RX1 67 "GloveCuttersModel" "pieces" "I", .fieldLink RX1 22 "GloveCuttersModel" "pairOf" "[I", .fieldLink RX1 19 "GloveCuttersModel" "kindOf" "[I", .methodLink RX1 41 yX1_isIn, .static yX1_isIn, .initialized RX1, .code yX1_isIn cX1_isIn 3 (some .boolean), .methodLink RX1 52 yX1_no, .instanceMethod yX1_no, .selects RX1 yX1_no yX1_no, .code yX1_no cX1_no 2 (some .int)] ++ wsX10)
def wsX1_pair : List Cond := .code yX1_pair cX1_pair 3 (some .int) :: ([.fieldLink RX1 34 "GloveCuttersModel" "thrown" "I", .fieldLink RX1 119 "GloveCuttersModel" "pairs" "I", .fieldLink RX1 28 "GloveCuttersModel" "book" "[I", .methodLink RX1 41 yX1_isIn, .static yX1_isIn, .initialized RX1, .code yX1_isIn cX1_isIn 3 (some .boolean), .methodLink RX1 52 yX1_no, .instanceMethod yX1_no, .selects RX1 yX1_no yX1_no, .code yX1_no cX1_no 2 (some .int)] ++ wsX10)
def wsX1_counted : List Cond := .code yX1_counted cX1_counted 5 (some .int) :: ([.arrayClass .int, .fieldLink RX1 67 "GloveCuttersModel" "pieces" "I", .fieldLink RX1 22 "GloveCuttersModel" "pairOf" "[I", .fieldLink RX1 119 "GloveCuttersModel" "pairs" "I", .fieldLink RX1 28 "GloveCuttersModel" "book" "[I", .fieldLink RX1 38 "GloveCuttersModel" "skins" "I"] ++ wsX10)
def wsX1_count : List Cond := .code yX1_count cX1_count 2 (some .int) :: ([.fieldLink RX1 34 "GloveCuttersModel" "thrown" "I", .methodLink RX1 41 yX1_isIn, .static yX1_isIn, .initialized RX1, .code yX1_isIn cX1_isIn 3 (some .boolean), .methodLink RX1 140 yX1_counted, .instanceMethod yX1_counted, .selects RX1 yX1_counted yX1_counted, .code yX1_counted cX1_counted 5 (some .int), .arrayClass .int, .fieldLink RX1 67 "GloveCuttersModel" "pieces" "I", .fieldLink RX1 22 "GloveCuttersModel" "pairOf" "[I", .fieldLink RX1 119 "GloveCuttersModel" "pairs" "I", .fieldLink RX1 28 "GloveCuttersModel" "book" "[I", .fieldLink RX1 38 "GloveCuttersModel" "skins" "I", .methodLink RX1 52 yX1_no, .instanceMethod yX1_no, .selects RX1 yX1_no yX1_no, .code yX1_no cX1_no 2 (some .int)] ++ wsX10)
def wsX1_given_r1 : List Cond := [Cond.fieldLink RX1 13 "GloveCuttersModel" "cells" "[I", Cond.fieldLink RX1 31 "GloveCuttersModel" "trial" "[I", Cond.methodLink RX1 134 arraycopyName, Cond.native arraycopyName, Cond.static arraycopyName, Cond.initialized "java/lang/System", Cond.methodLink RX1 97 yX1_first, Cond.static yX1_first, Cond.initialized RX1, Cond.code yX1_first cX1_first 5 (some .int), Cond.methodLink RX1 90 yX1_can, Cond.static yX1_can, Cond.code yX1_can cX1_can 9 (some .boolean), Cond.methodLink RX1 83 yX1_wideOf, Cond.static yX1_wideOf, Cond.code yX1_wideOf cX1_wideOf 2 (some .int), Cond.fieldLink RX1 77 "GloveCuttersModel" "DOWN" "[I", Cond.fieldLink RX1 80 "GloveCuttersModel" "ACROSS" "[I", Cond.methodLink RX1 87 yX1_highOf, Cond.static yX1_highOf, Cond.code yX1_highOf cX1_highOf 2 (some .int), Cond.methodLink RX1 59 yX1_many, Cond.static yX1_many, Cond.code yX1_many cX1_many 7 (some .int)]
def wsX1_given_r2 : List Cond := [Cond.methodLink RX1 63 yX1_fill, Cond.static yX1_fill, Cond.code yX1_fill cX1_fill 6 none]
def wsX1_given : List Cond := .code yX1_given cX1_given 6 (some .int) :: ((wsX1_given_r1 ++ wsX1_given_r2) ++ wsX10)
def wsX1_gives_r1 : List Cond := [Cond.fieldLink RX1 34 "GloveCuttersModel" "thrown" "I", Cond.methodLink RX1 45 yX1_isSkin, Cond.instanceMethod yX1_isSkin, Cond.selects RX1 yX1_isSkin yX1_isSkin, Cond.initialized RX1, Cond.code yX1_isSkin cX1_isSkin 2 (some .boolean), Cond.fieldLink RX1 38 "GloveCuttersModel" "skins" "I", Cond.methodLink RX1 41 yX1_isIn, Cond.static yX1_isIn, Cond.code yX1_isIn cX1_isIn 3 (some .boolean), Cond.methodLink RX1 52 yX1_no, Cond.instanceMethod yX1_no, Cond.selects RX1 yX1_no yX1_no, Cond.code yX1_no cX1_no 2 (some .int), Cond.methodLink RX1 94 yX1_isKind, Cond.static yX1_isKind, Cond.code yX1_isKind cX1_isKind 1 (some .boolean), Cond.methodLink RX1 143 yX1_given, Cond.instanceMethod yX1_given, Cond.selects RX1 yX1_given yX1_given, Cond.code yX1_given cX1_given 6 (some .int), Cond.fieldLink RX1 13 "GloveCuttersModel" "cells" "[I", Cond.fieldLink RX1 31 "GloveCuttersModel" "trial" "[I", Cond.methodLink RX1 134 arraycopyName]
def wsX1_gives_r2 : List Cond := [Cond.native arraycopyName, Cond.static arraycopyName, Cond.initialized "java/lang/System", Cond.methodLink RX1 97 yX1_first, Cond.static yX1_first, Cond.code yX1_first cX1_first 5 (some .int), Cond.methodLink RX1 90 yX1_can, Cond.static yX1_can, Cond.code yX1_can cX1_can 9 (some .boolean), Cond.methodLink RX1 83 yX1_wideOf, Cond.static yX1_wideOf, Cond.code yX1_wideOf cX1_wideOf 2 (some .int), Cond.fieldLink RX1 77 "GloveCuttersModel" "DOWN" "[I", Cond.fieldLink RX1 80 "GloveCuttersModel" "ACROSS" "[I", Cond.methodLink RX1 87 yX1_highOf, Cond.static yX1_highOf, Cond.code yX1_highOf cX1_highOf 2 (some .int), Cond.methodLink RX1 59 yX1_many, Cond.static yX1_many, Cond.code yX1_many cX1_many 7 (some .int), Cond.methodLink RX1 63 yX1_fill, Cond.static yX1_fill, Cond.code yX1_fill cX1_fill 6 none]
def wsX1_gives : List Cond := .code yX1_gives cX1_gives 4 (some .int) :: ((wsX1_gives_r1 ++ wsX1_gives_r2) ++ wsX10)
def wsX1_best_r1 : List Cond := [Cond.fieldLink RX1 34 "GloveCuttersModel" "thrown" "I", Cond.fieldLink RX1 38 "GloveCuttersModel" "skins" "I", Cond.methodLink RX1 94 yX1_isKind, Cond.static yX1_isKind, Cond.initialized RX1, Cond.code yX1_isKind cX1_isKind 1 (some .boolean), Cond.methodLink RX1 41 yX1_isIn, Cond.static yX1_isIn, Cond.code yX1_isIn cX1_isIn 3 (some .boolean), Cond.methodLink RX1 52 yX1_no, Cond.instanceMethod yX1_no, Cond.selects RX1 yX1_no yX1_no, Cond.code yX1_no cX1_no 2 (some .int), Cond.methodLink RX1 143 yX1_given, Cond.instanceMethod yX1_given, Cond.selects RX1 yX1_given yX1_given, Cond.code yX1_given cX1_given 6 (some .int), Cond.fieldLink RX1 13 "GloveCuttersModel" "cells" "[I", Cond.fieldLink RX1 31 "GloveCuttersModel" "trial" "[I", Cond.methodLink RX1 134 arraycopyName, Cond.native arraycopyName, Cond.static arraycopyName, Cond.initialized "java/lang/System", Cond.methodLink RX1 97 yX1_first]
def wsX1_best_r2 : List Cond := [Cond.static yX1_first, Cond.code yX1_first cX1_first 5 (some .int), Cond.methodLink RX1 90 yX1_can, Cond.static yX1_can, Cond.code yX1_can cX1_can 9 (some .boolean), Cond.methodLink RX1 83 yX1_wideOf, Cond.static yX1_wideOf, Cond.code yX1_wideOf cX1_wideOf 2 (some .int), Cond.fieldLink RX1 77 "GloveCuttersModel" "DOWN" "[I", Cond.fieldLink RX1 80 "GloveCuttersModel" "ACROSS" "[I", Cond.methodLink RX1 87 yX1_highOf, Cond.static yX1_highOf, Cond.code yX1_highOf cX1_highOf 2 (some .int), Cond.methodLink RX1 59 yX1_many, Cond.static yX1_many, Cond.code yX1_many cX1_many 7 (some .int), Cond.methodLink RX1 63 yX1_fill, Cond.static yX1_fill, Cond.code yX1_fill cX1_fill 6 none]
def wsX1_best : List Cond := .code yX1_best cX1_best 7 (some .int) :: ((wsX1_best_r1 ++ wsX1_best_r2) ++ wsX10)
def wsX1_lacks_r1 : List Cond := [Cond.fieldLink RX1 34 "GloveCuttersModel" "thrown" "I", Cond.fieldLink RX1 38 "GloveCuttersModel" "skins" "I", Cond.fieldLink RX1 9 "GloveCuttersModel" "colour" "[I", Cond.methodLink RX1 147 Lib.Math.max.name, Cond.static Lib.Math.max.name, Cond.initialized "java/lang/Math", Cond.code Lib.Math.max.name Lib.Math.max.code 2 (some .int), Cond.fieldLink RX1 116 "GloveCuttersModel" "NEEDS" "[I", Cond.methodLink RX1 49 yX1_isColour, Cond.static yX1_isColour, Cond.initialized RX1, Cond.code yX1_isColour cX1_isColour 1 (some .boolean), Cond.methodLink RX1 41 yX1_isIn, Cond.static yX1_isIn, Cond.code yX1_isIn cX1_isIn 3 (some .boolean), Cond.methodLink RX1 94 yX1_isKind, Cond.static yX1_isKind, Cond.code yX1_isKind cX1_isKind 1 (some .boolean), Cond.methodLink RX1 52 yX1_no, Cond.instanceMethod yX1_no, Cond.selects RX1 yX1_no yX1_no, Cond.code yX1_no cX1_no 2 (some .int), Cond.methodLink RX1 113 yX1_free, Cond.instanceMethod yX1_free]
def wsX1_lacks_r2 : List Cond := [Cond.selects RX1 yX1_free yX1_free, Cond.code yX1_free cX1_free 5 (some .int), Cond.fieldLink RX1 67 "GloveCuttersModel" "pieces" "I", Cond.methodLink RX1 104 yX1_isFree, Cond.instanceMethod yX1_isFree, Cond.selects RX1 yX1_isFree yX1_isFree, Cond.code yX1_isFree cX1_isFree 4 (some .boolean), Cond.fieldLink RX1 22 "GloveCuttersModel" "pairOf" "[I", Cond.fieldLink RX1 19 "GloveCuttersModel" "kindOf" "[I", Cond.fieldLink RX1 16 "GloveCuttersModel" "skinOf" "[I", Cond.methodLink RX1 107 yX1_tranks, Cond.instanceMethod yX1_tranks, Cond.selects RX1 yX1_tranks yX1_tranks, Cond.code yX1_tranks cX1_tranks 4 (some .int)]
def wsX1_lacks : List Cond := .code yX1_lacks cX1_lacks 5 (some .int) :: ((wsX1_lacks_r1 ++ wsX1_lacks_r2) ++ wsX10)
def wsX1_pairs_r1 : List Cond := [Cond.fieldLink RX1 34 "GloveCuttersModel" "thrown" "I", Cond.fieldLink RX1 38 "GloveCuttersModel" "skins" "I", Cond.fieldLink RX1 9 "GloveCuttersModel" "colour" "[I", Cond.fieldLink RX1 116 "GloveCuttersModel" "NEEDS" "[I", Cond.methodLink RX1 152 Lib.Math.min.name, Cond.static Lib.Math.min.name, Cond.initialized "java/lang/Math", Cond.code Lib.Math.min.name Lib.Math.min.code 2 (some .int), Cond.methodLink RX1 49 yX1_isColour, Cond.static yX1_isColour, Cond.initialized RX1, Cond.code yX1_isColour cX1_isColour 1 (some .boolean), Cond.methodLink RX1 41 yX1_isIn, Cond.static yX1_isIn, Cond.code yX1_isIn cX1_isIn 3 (some .boolean), Cond.methodLink RX1 52 yX1_no, Cond.instanceMethod yX1_no, Cond.selects RX1 yX1_no yX1_no, Cond.code yX1_no cX1_no 2 (some .int), Cond.methodLink RX1 107 yX1_tranks, Cond.instanceMethod yX1_tranks, Cond.selects RX1 yX1_tranks yX1_tranks, Cond.code yX1_tranks cX1_tranks 4 (some .int), Cond.fieldLink RX1 67 "GloveCuttersModel" "pieces" "I"]
def wsX1_pairs_r2 : List Cond := [Cond.fieldLink RX1 16 "GloveCuttersModel" "skinOf" "[I", Cond.methodLink RX1 104 yX1_isFree, Cond.instanceMethod yX1_isFree, Cond.selects RX1 yX1_isFree yX1_isFree, Cond.code yX1_isFree cX1_isFree 4 (some .boolean), Cond.fieldLink RX1 22 "GloveCuttersModel" "pairOf" "[I", Cond.fieldLink RX1 19 "GloveCuttersModel" "kindOf" "[I", Cond.methodLink RX1 113 yX1_free, Cond.instanceMethod yX1_free, Cond.selects RX1 yX1_free yX1_free, Cond.code yX1_free cX1_free 5 (some .int)]
def wsX1_pairs : List Cond := .code yX1_pairs cX1_pairs 4 (some .int) :: ((wsX1_pairs_r1 ++ wsX1_pairs_r2) ++ wsX10)
def wsX1_share : List Cond := .code yX1_share cX1_share 4 (some .double) :: ([.fieldLink RX1 34 "GloveCuttersModel" "thrown" "I", .fieldLink RX1 38 "GloveCuttersModel" "skins" "I", .fieldLink RX1 13 "GloveCuttersModel" "cells" "[I", .methodLink RX1 59 yX1_many, .static yX1_many, .initialized RX1, .code yX1_many cX1_many 7 (some .int)] ++ wsX10)
def wsX1_digest_r1 : List Cond := [Cond.fieldLink RX1 34 "GloveCuttersModel" "thrown" "I", Cond.constantLong RX1 155 (1087), Cond.constantLong RX1 157 (31), Cond.fieldLink RX1 38 "GloveCuttersModel" "skins" "I", Cond.fieldLink RX1 13 "GloveCuttersModel" "cells" "[I", Cond.fieldLink RX1 67 "GloveCuttersModel" "pieces" "I", Cond.fieldLink RX1 119 "GloveCuttersModel" "pairs" "I", Cond.fieldLink RX1 28 "GloveCuttersModel" "book" "[I", Cond.methodLink RX1 140 yX1_counted, Cond.instanceMethod yX1_counted, Cond.selects RX1 yX1_counted yX1_counted, Cond.initialized RX1, Cond.code yX1_counted cX1_counted 5 (some .int), Cond.arrayClass .int, Cond.fieldLink RX1 22 "GloveCuttersModel" "pairOf" "[I", Cond.methodLink RX1 73 yX1_skinTold, Cond.instanceMethod yX1_skinTold, Cond.selects RX1 yX1_skinTold yX1_skinTold, Cond.code yX1_skinTold cX1_skinTold 3 (some .int), Cond.fieldLink RX1 9 "GloveCuttersModel" "colour" "[I", Cond.methodLink RX1 70 yX1_piecesOf, Cond.instanceMethod yX1_piecesOf, Cond.selects RX1 yX1_piecesOf yX1_piecesOf, Cond.code yX1_piecesOf cX1_piecesOf 4 (some .int)]
def wsX1_digest_r2 : List Cond := [Cond.fieldLink RX1 16 "GloveCuttersModel" "skinOf" "[I", Cond.methodLink RX1 59 yX1_many, Cond.static yX1_many, Cond.code yX1_many cX1_many 7 (some .int), Cond.methodLink RX1 101 yX1_pieceTold, Cond.instanceMethod yX1_pieceTold, Cond.selects RX1 yX1_pieceTold yX1_pieceTold, Cond.code yX1_pieceTold cX1_pieceTold 3 (some .int), Cond.fieldLink RX1 19 "GloveCuttersModel" "kindOf" "[I", Cond.fieldLink RX1 25 "GloveCuttersModel" "thinOf" "[I"]
def wsX1_digest : List Cond := .code yX1_digest cX1_digest 5 (some .long) :: ((wsX1_digest_r1 ++ wsX1_digest_r2) ++ wsX10)
def wsJ9_max_7cf53 : List Cond := .code yJ9_max_7cf53 cJ9_max_7cf53 2 (some .int) :: ([])
def wsJ9_min_7cf53 : List Cond := .code yJ9_min_7cf53 cJ9_min_7cf53 2 (some .int) :: ([])
def wsL_lay : List Cond := .codeWith yL_lay cL_lay 4 (some .int) [(0, 9, 12, 13), (0, 9, 15, 15)] :: ([.classLink RL 13 "java/lang/IllegalArgumentException", .classLink RL 15 "java/lang/IllegalStateException", .methodLink RL 7 yX0_lay, .instanceMethod yX0_lay, .selects RX0 yX0_lay yX0_lay, .initialized RX0, .code yX0_lay cX0_lay 2 (some .int), .classLink RX0 60 "java/lang/IllegalStateException", .initialized "java/lang/IllegalStateException", .fieldLink RX0 56 "GloveCutters" "skins" "I", .fieldLink RX0 9 "GloveCutters" "skinColour" "[I", .methodLink RX0 52 yX0_needColour, .static yX0_needColour, .code yX0_needColour cX0_needColour 1 none, .classLink RX0 74 "java/lang/IllegalArgumentException", .initialized "java/lang/IllegalArgumentException"] ++ wsX00 ++ (vx_atS RX0 64 "java/lang/IllegalStateException" ["java/lang/RuntimeException", "java/lang/Exception"]).filter goodWord ++ (vx_atS RX0 78 "java/lang/IllegalArgumentException" ["java/lang/RuntimeException", "java/lang/Exception"]).filter goodWord)
def wsL_mark_r1 : List Cond := [Cond.classLink RL 21 "java/lang/IndexOutOfBoundsException", Cond.classLink RL 13 "java/lang/IllegalArgumentException", Cond.classLink RL 15 "java/lang/IllegalStateException", Cond.methodLink RL 17 yX0_mark, Cond.instanceMethod yX0_mark, Cond.selects RX0 yX0_mark yX0_mark, Cond.initialized RX0, Cond.code yX0_mark cX0_mark 9 (some .int), Cond.classLink RX0 74 "java/lang/IllegalArgumentException", Cond.initialized "java/lang/IllegalArgumentException", Cond.classLink RX0 60 "java/lang/IllegalStateException", Cond.initialized "java/lang/IllegalStateException", Cond.fieldLink RX0 18 "GloveCutters" "skinCells" "[[I", Cond.methodLink RX0 67 yX0_needSkin, Cond.instanceMethod yX0_needSkin, Cond.selects RX0 yX0_needSkin yX0_needSkin, Cond.code yX0_needSkin cX0_needSkin 2 none, Cond.classLink RX0 123 "java/lang/IndexOutOfBoundsException", Cond.initialized "java/lang/IndexOutOfBoundsException", Cond.fieldLink RX0 56 "GloveCutters" "skins" "I", Cond.methodLink RX0 70 yX0_needCell, Cond.static yX0_needCell, Cond.code yX0_needCell cX0_needCell 2 none, Cond.methodLink RX0 81 yX0_tally]
def wsL_mark_r2 : List Cond := [Cond.static yX0_tally, Cond.code yX0_tally cX0_tally 9 (some .int), Cond.methodLink RX0 87 yX0_paint, Cond.static yX0_paint, Cond.code yX0_paint cX0_paint 8 none]
def wsL_mark : List Cond := .codeWith yL_mark cL_mark 9 (some .int) [(0, 18, 21, 21), (0, 18, 25, 13), (0, 18, 29, 15)] :: ((wsL_mark_r1 ++ wsL_mark_r2) ++ wsX00 ++ (vx_atS RX0 78 "java/lang/IllegalArgumentException" ["java/lang/RuntimeException", "java/lang/Exception"]).filter goodWord ++ (vx_atS RX0 64 "java/lang/IllegalStateException" ["java/lang/RuntimeException", "java/lang/Exception"]).filter goodWord ++ (vx_atS RX0 127 "java/lang/IndexOutOfBoundsException" ["java/lang/RuntimeException", "java/lang/Exception"]).filter goodWord)
def wsL_cell : List Cond := .codeWith yL_cell cL_cell 6 (some .int) [(0, 12, 15, 21)] :: ([.classLink RL 21 "java/lang/IndexOutOfBoundsException", .methodLink RL 23 yX0_cell, .instanceMethod yX0_cell, .selects RX0 yX0_cell yX0_cell, .initialized RX0, .code yX0_cell cX0_cell 4 (some .int), .fieldLink RX0 18 "GloveCutters" "skinCells" "[[I", .methodLink RX0 67 yX0_needSkin, .instanceMethod yX0_needSkin, .selects RX0 yX0_needSkin yX0_needSkin, .code yX0_needSkin cX0_needSkin 2 none, .classLink RX0 123 "java/lang/IndexOutOfBoundsException", .initialized "java/lang/IndexOutOfBoundsException", .fieldLink RX0 56 "GloveCutters" "skins" "I", .methodLink RX0 70 yX0_needCell, .static yX0_needCell, .code yX0_needCell cX0_needCell 2 none] ++ wsX00 ++ (vx_atS RX0 127 "java/lang/IndexOutOfBoundsException" ["java/lang/RuntimeException", "java/lang/Exception"]).filter goodWord)
def wsL_skin_r1 : List Cond := [Cond.classLink RL 21 "java/lang/IndexOutOfBoundsException", Cond.methodLink RL 27 yX0_skin, Cond.instanceMethod yX0_skin, Cond.selects RX0 yX0_skin yX0_skin, Cond.initialized RX0, Cond.code yX0_skin cX0_skin 3 (some .int), Cond.methodLink RX0 67 yX0_needSkin, Cond.instanceMethod yX0_needSkin, Cond.selects RX0 yX0_needSkin yX0_needSkin, Cond.code yX0_needSkin cX0_needSkin 2 none, Cond.classLink RX0 123 "java/lang/IndexOutOfBoundsException", Cond.initialized "java/lang/IndexOutOfBoundsException", Cond.fieldLink RX0 56 "GloveCutters" "skins" "I", Cond.methodLink RX0 91 yX0_needWhat, Cond.static yX0_needWhat, Cond.code yX0_needWhat cX0_needWhat 2 none, Cond.methodLink RX0 94 yX0_tellSkin, Cond.instanceMethod yX0_tellSkin, Cond.selects RX0 yX0_tellSkin yX0_tellSkin, Cond.code yX0_tellSkin cX0_tellSkin 3 (some .int), Cond.fieldLink RX0 9 "GloveCutters" "skinColour" "[I", Cond.fieldLink RX0 13 "GloveCutters" "skinPieces" "[I", Cond.methodLink RX0 174 yX0_tallySkin, Cond.instanceMethod yX0_tallySkin]
def wsL_skin_r2 : List Cond := [Cond.selects RX0 yX0_tallySkin yX0_tallySkin, Cond.code yX0_tallySkin cX0_tallySkin 3 (some .int), Cond.fieldLink RX0 18 "GloveCutters" "skinCells" "[[I", Cond.methodLink RX0 81 yX0_tally, Cond.static yX0_tally, Cond.code yX0_tally cX0_tally 9 (some .int)]
def wsL_skin : List Cond := .codeWith yL_skin cL_skin 5 (some .int) [(0, 10, 13, 21)] :: ((wsL_skin_r1 ++ wsL_skin_r2) ++ wsX00 ++ (vx_atS RX0 127 "java/lang/IndexOutOfBoundsException" ["java/lang/RuntimeException", "java/lang/Exception"]).filter goodWord)
def wsL_cut_r1 : List Cond := [Cond.classLink RL 21 "java/lang/IndexOutOfBoundsException", Cond.classLink RL 13 "java/lang/IllegalArgumentException", Cond.classLink RL 15 "java/lang/IllegalStateException", Cond.methodLink RL 31 yX0_cut, Cond.instanceMethod yX0_cut, Cond.selects RX0 yX0_cut yX0_cut, Cond.initialized RX0, Cond.code yX0_cut cX0_cut 9 (some .int), Cond.classLink RX0 60 "java/lang/IllegalStateException", Cond.initialized "java/lang/IllegalStateException", Cond.fieldLink RX0 18 "GloveCutters" "skinCells" "[[I", Cond.fieldLink RX0 107 "GloveCutters" "pieces" "I", Cond.fieldLink RX0 21 "GloveCutters" "pieceSkin" "[I", Cond.fieldLink RX0 24 "GloveCutters" "pieceKind" "[I", Cond.fieldLink RX0 27 "GloveCutters" "pieceWhere" "[I", Cond.fieldLink RX0 30 "GloveCutters" "pieceThin" "[I", Cond.fieldLink RX0 13 "GloveCutters" "skinPieces" "[I", Cond.methodLink RX0 67 yX0_needSkin, Cond.instanceMethod yX0_needSkin, Cond.selects RX0 yX0_needSkin yX0_needSkin, Cond.code yX0_needSkin cX0_needSkin 2 none, Cond.classLink RX0 123 "java/lang/IndexOutOfBoundsException", Cond.initialized "java/lang/IndexOutOfBoundsException", Cond.fieldLink RX0 56 "GloveCutters" "skins" "I"]
def wsL_cut_r2 : List Cond := [Cond.methodLink RX0 70 yX0_needCell, Cond.static yX0_needCell, Cond.code yX0_needCell cX0_needCell 2 none, Cond.methodLink RX0 98 yX0_needKind, Cond.static yX0_needKind, Cond.code yX0_needKind cX0_needKind 1 none, Cond.classLink RX0 74 "java/lang/IllegalArgumentException", Cond.initialized "java/lang/IllegalArgumentException", Cond.methodLink RX0 101 yX0_fits, Cond.static yX0_fits, Cond.code yX0_fits cX0_fits 7 (some .boolean), Cond.fieldLink RX0 210 "GloveCutters" "KIND_MOST_THIN" "[I", Cond.methodLink RX0 112 yX0_wideOf, Cond.static yX0_wideOf, Cond.code yX0_wideOf cX0_wideOf 2 (some .int), Cond.fieldLink RX0 204 "GloveCutters" "KIND_HIGH" "[I", Cond.fieldLink RX0 207 "GloveCutters" "KIND_WIDE" "[I", Cond.methodLink RX0 116 yX0_highOf, Cond.static yX0_highOf, Cond.code yX0_highOf cX0_highOf 2 (some .int), Cond.methodLink RX0 81 yX0_tally, Cond.static yX0_tally, Cond.code yX0_tally cX0_tally 9 (some .int), Cond.methodLink RX0 87 yX0_paint]
def wsL_cut_r3 : List Cond := [Cond.static yX0_paint, Cond.code yX0_paint cX0_paint 8 none]
def wsL_cut : List Cond := .codeWith yL_cut cL_cut 8 (some .int) [(0, 16, 19, 21), (0, 16, 23, 13), (0, 16, 27, 15)] :: ((wsL_cut_r1 ++ (wsL_cut_r2 ++ wsL_cut_r3)) ++ wsX00 ++ (vx_atS RX0 64 "java/lang/IllegalStateException" ["java/lang/RuntimeException", "java/lang/Exception"]).filter goodWord ++ (vx_atS RX0 127 "java/lang/IndexOutOfBoundsException" ["java/lang/RuntimeException", "java/lang/Exception"]).filter goodWord ++ (vx_atS RX0 78 "java/lang/IllegalArgumentException" ["java/lang/RuntimeException", "java/lang/Exception"]).filter goodWord)
def wsL_place_r1 : List Cond := [Cond.classLink RL 21 "java/lang/IndexOutOfBoundsException", Cond.classLink RL 13 "java/lang/IllegalArgumentException", Cond.methodLink RL 35 yX0_place, Cond.instanceMethod yX0_place, Cond.selects RX0 yX0_place yX0_place, Cond.initialized RX0, Cond.code yX0_place cX0_place 4 (some .int), Cond.fieldLink RX0 18 "GloveCutters" "skinCells" "[[I", Cond.methodLink RX0 67 yX0_needSkin, Cond.instanceMethod yX0_needSkin, Cond.selects RX0 yX0_needSkin yX0_needSkin, Cond.code yX0_needSkin cX0_needSkin 2 none, Cond.classLink RX0 123 "java/lang/IndexOutOfBoundsException", Cond.initialized "java/lang/IndexOutOfBoundsException", Cond.fieldLink RX0 56 "GloveCutters" "skins" "I", Cond.methodLink RX0 98 yX0_needKind, Cond.static yX0_needKind, Cond.code yX0_needKind cX0_needKind 1 none, Cond.classLink RX0 74 "java/lang/IllegalArgumentException", Cond.initialized "java/lang/IllegalArgumentException", Cond.methodLink RX0 119 yX0_firstFit, Cond.static yX0_firstFit, Cond.code yX0_firstFit cX0_firstFit 5 (some .int), Cond.methodLink RX0 101 yX0_fits]
def wsL_place_r2 : List Cond := [Cond.static yX0_fits, Cond.code yX0_fits cX0_fits 7 (some .boolean), Cond.fieldLink RX0 210 "GloveCutters" "KIND_MOST_THIN" "[I", Cond.methodLink RX0 112 yX0_wideOf, Cond.static yX0_wideOf, Cond.code yX0_wideOf cX0_wideOf 2 (some .int), Cond.fieldLink RX0 204 "GloveCutters" "KIND_HIGH" "[I", Cond.fieldLink RX0 207 "GloveCutters" "KIND_WIDE" "[I", Cond.methodLink RX0 116 yX0_highOf, Cond.static yX0_highOf, Cond.code yX0_highOf cX0_highOf 2 (some .int), Cond.methodLink RX0 81 yX0_tally, Cond.static yX0_tally, Cond.code yX0_tally cX0_tally 9 (some .int)]
def wsL_place : List Cond := .codeWith yL_place cL_place 6 (some .int) [(0, 12, 15, 21), (0, 12, 19, 13)] :: ((wsL_place_r1 ++ wsL_place_r2) ++ wsX00 ++ (vx_atS RX0 127 "java/lang/IndexOutOfBoundsException" ["java/lang/RuntimeException", "java/lang/Exception"]).filter goodWord ++ (vx_atS RX0 78 "java/lang/IllegalArgumentException" ["java/lang/RuntimeException", "java/lang/Exception"]).filter goodWord)
def wsL_piece : List Cond := .codeWith yL_piece cL_piece 5 (some .int) [(0, 10, 13, 21)] :: ([.classLink RL 21 "java/lang/IndexOutOfBoundsException", .methodLink RL 39 yX0_piece, .instanceMethod yX0_piece, .selects RX0 yX0_piece yX0_piece, .initialized RX0, .code yX0_piece cX0_piece 3 (some .int), .classLink RX0 123 "java/lang/IndexOutOfBoundsException", .initialized "java/lang/IndexOutOfBoundsException", .fieldLink RX0 107 "GloveCutters" "pieces" "I", .methodLink RX0 91 yX0_needWhat, .static yX0_needWhat, .code yX0_needWhat cX0_needWhat 2 none, .methodLink RX0 128 yX0_tellPiece, .instanceMethod yX0_tellPiece, .selects RX0 yX0_tellPiece yX0_tellPiece, .code yX0_tellPiece cX0_tellPiece 3 (some .int), .fieldLink RX0 21 "GloveCutters" "pieceSkin" "[I", .fieldLink RX0 24 "GloveCutters" "pieceKind" "[I", .fieldLink RX0 27 "GloveCutters" "pieceWhere" "[I", .fieldLink RX0 30 "GloveCutters" "pieceThin" "[I"] ++ wsX00 ++ (vx_atS RX0 127 "java/lang/IndexOutOfBoundsException" ["java/lang/RuntimeException", "java/lang/Exception"]).filter goodWord)
def wsL_sew_r1 : List Cond := [Cond.classLink RL 13 "java/lang/IllegalArgumentException", Cond.classLink RL 15 "java/lang/IllegalStateException", Cond.methodLink RL 42 yX0_sew, Cond.instanceMethod yX0_sew, Cond.selects RX0 yX0_sew yX0_sew, Cond.initialized RX0, Cond.code yX0_sew cX0_sew 3 (some .int), Cond.classLink RX0 60 "java/lang/IllegalStateException", Cond.initialized "java/lang/IllegalStateException", Cond.fieldLink RX0 136 "GloveCutters" "sewn" "I", Cond.methodLink RX0 52 yX0_needColour, Cond.static yX0_needColour, Cond.code yX0_needColour cX0_needColour 1 none, Cond.classLink RX0 74 "java/lang/IllegalArgumentException", Cond.initialized "java/lang/IllegalArgumentException", Cond.methodLink RX0 131 yX0_lacking, Cond.instanceMethod yX0_lacking, Cond.selects RX0 yX0_lacking yX0_lacking, Cond.code yX0_lacking cX0_lacking 4 (some .int), Cond.fieldLink RX0 229 "GloveCutters" "KIND_IN_PAIR" "[I", Cond.methodLink RX0 226 Lib.Math.max.name, Cond.static Lib.Math.max.name, Cond.initialized "java/lang/Math", Cond.code Lib.Math.max.name Lib.Math.max.code 2 (some .int)]
def wsL_sew_r2 : List Cond := [Cond.methodLink RX0 232 yX0_mostTranksOfOneSkin, Cond.instanceMethod yX0_mostTranksOfOneSkin, Cond.selects RX0 yX0_mostTranksOfOneSkin yX0_mostTranksOfOneSkin, Cond.code yX0_mostTranksOfOneSkin cX0_mostTranksOfOneSkin 4 (some .int), Cond.fieldLink RX0 56 "GloveCutters" "skins" "I", Cond.fieldLink RX0 9 "GloveCutters" "skinColour" "[I", Cond.methodLink RX0 223 yX0_freeTranks, Cond.instanceMethod yX0_freeTranks, Cond.selects RX0 yX0_freeTranks yX0_freeTranks, Cond.code yX0_freeTranks cX0_freeTranks 4 (some .int), Cond.fieldLink RX0 107 "GloveCutters" "pieces" "I", Cond.fieldLink RX0 27 "GloveCutters" "pieceWhere" "[I", Cond.fieldLink RX0 24 "GloveCutters" "pieceKind" "[I", Cond.fieldLink RX0 21 "GloveCutters" "pieceSkin" "[I", Cond.methodLink RX0 163 yX0_freeOfColour, Cond.instanceMethod yX0_freeOfColour, Cond.selects RX0 yX0_freeOfColour yX0_freeOfColour, Cond.code yX0_freeOfColour cX0_freeOfColour 5 (some .int), Cond.methodLink RX0 219 yX0_isFreeOfColour, Cond.instanceMethod yX0_isFreeOfColour, Cond.selects RX0 yX0_isFreeOfColour yX0_isFreeOfColour, Cond.code yX0_isFreeOfColour cX0_isFreeOfColour 4 (some .boolean), Cond.methodLink RX0 141 yX0_enterPair, Cond.instanceMethod yX0_enterPair]
def wsL_sew_r3 : List Cond := [Cond.selects RX0 yX0_enterPair yX0_enterPair, Cond.code yX0_enterPair cX0_enterPair 8 none, Cond.fieldLink RX0 33 "GloveCutters" "pairColour" "[I", Cond.fieldLink RX0 36 "GloveCutters" "pairTrankSkin" "[I", Cond.fieldLink RX0 42 "GloveCutters" "pairThin" "[I", Cond.fieldLink RX0 30 "GloveCutters" "pieceThin" "[I", Cond.fieldLink RX0 39 "GloveCutters" "pairSkins" "[I", Cond.methodLink RX0 235 yX0_firstSkinWithTranks, Cond.instanceMethod yX0_firstSkinWithTranks, Cond.selects RX0 yX0_firstSkinWithTranks yX0_firstSkinWithTranks, Cond.code yX0_firstSkinWithTranks cX0_firstSkinWithTranks 3 (some .int), Cond.methodLink RX0 238 yJ6_bitCount_0f7a4, Cond.static yJ6_bitCount_0f7a4, Cond.initialized RJ6, Cond.code yJ6_bitCount_0f7a4 cJ6_bitCount_0f7a4 1 (some .int), Cond.constant RJ6 265 (1431655765), Cond.constant RJ6 266 (858993459), Cond.constant RJ6 267 (252645135)]
def wsL_sew : List Cond := .codeWith yL_sew cL_sew 4 (some .int) [(0, 9, 12, 13), (0, 9, 15, 15)] :: ((wsL_sew_r1 ++ (wsL_sew_r2 ++ wsL_sew_r3)) ++ wsX00 ++ (vx_atS RX0 64 "java/lang/IllegalStateException" ["java/lang/RuntimeException", "java/lang/Exception"]).filter goodWord ++ (vx_atS RX0 78 "java/lang/IllegalArgumentException" ["java/lang/RuntimeException", "java/lang/Exception"]).filter goodWord)
def wsL_rip : List Cond := .codeWith yL_rip cL_rip 4 (some .int) [(0, 9, 12, 21), (0, 9, 15, 15)] :: ([.classLink RL 21 "java/lang/IndexOutOfBoundsException", .classLink RL 15 "java/lang/IllegalStateException", .methodLink RL 45 yX0_rip, .instanceMethod yX0_rip, .selects RX0 yX0_rip yX0_rip, .initialized RX0, .code yX0_rip cX0_rip 5 (some .int), .classLink RX0 60 "java/lang/IllegalStateException", .initialized "java/lang/IllegalStateException", .fieldLink RX0 45 "GloveCutters" "pairRipped" "[Z", .fieldLink RX0 107 "GloveCutters" "pieces" "I", .fieldLink RX0 27 "GloveCutters" "pieceWhere" "[I", .fieldLink RX0 24 "GloveCutters" "pieceKind" "[I", .methodLink RX0 144 yX0_needPair, .instanceMethod yX0_needPair, .selects RX0 yX0_needPair yX0_needPair, .code yX0_needPair cX0_needPair 2 none, .classLink RX0 123 "java/lang/IndexOutOfBoundsException", .initialized "java/lang/IndexOutOfBoundsException", .fieldLink RX0 136 "GloveCutters" "sewn" "I"] ++ wsX00 ++ (vx_atS RX0 64 "java/lang/IllegalStateException" ["java/lang/RuntimeException", "java/lang/Exception"]).filter goodWord ++ (vx_atS RX0 127 "java/lang/IndexOutOfBoundsException" ["java/lang/RuntimeException", "java/lang/Exception"]).filter goodWord)
def wsL_pair_r1 : List Cond := [Cond.classLink RL 21 "java/lang/IndexOutOfBoundsException", Cond.methodLink RL 48 yX0_pair, Cond.instanceMethod yX0_pair, Cond.selects RX0 yX0_pair yX0_pair, Cond.initialized RX0, Cond.code yX0_pair cX0_pair 3 (some .int), Cond.methodLink RX0 144 yX0_needPair, Cond.instanceMethod yX0_needPair, Cond.selects RX0 yX0_needPair yX0_needPair, Cond.code yX0_needPair cX0_needPair 2 none, Cond.classLink RX0 123 "java/lang/IndexOutOfBoundsException", Cond.initialized "java/lang/IndexOutOfBoundsException", Cond.fieldLink RX0 136 "GloveCutters" "sewn" "I", Cond.methodLink RX0 91 yX0_needWhat, Cond.static yX0_needWhat, Cond.code yX0_needWhat cX0_needWhat 2 none, Cond.methodLink RX0 149 yX0_tellPair, Cond.instanceMethod yX0_tellPair, Cond.selects RX0 yX0_tellPair yX0_tellPair, Cond.code yX0_tellPair cX0_tellPair 3 (some .int), Cond.fieldLink RX0 33 "GloveCutters" "pairColour" "[I", Cond.fieldLink RX0 36 "GloveCutters" "pairTrankSkin" "[I", Cond.fieldLink RX0 39 "GloveCutters" "pairSkins" "[I", Cond.fieldLink RX0 42 "GloveCutters" "pairThin" "[I"]
def wsL_pair_r2 : List Cond := [Cond.fieldLink RX0 45 "GloveCutters" "pairRipped" "[Z"]
def wsL_pair : List Cond := .codeWith yL_pair cL_pair 5 (some .int) [(0, 10, 13, 21)] :: ((wsL_pair_r1 ++ wsL_pair_r2) ++ wsX00 ++ (vx_atS RX0 127 "java/lang/IndexOutOfBoundsException" ["java/lang/RuntimeException", "java/lang/Exception"]).filter goodWord)
def wsL_count_r1 : List Cond := [Cond.classLink RL 21 "java/lang/IndexOutOfBoundsException", Cond.methodLink RL 51 yX0_count, Cond.instanceMethod yX0_count, Cond.selects RX0 yX0_count yX0_count, Cond.initialized RX0, Cond.code yX0_count cX0_count 2 (some .int), Cond.methodLink RX0 91 yX0_needWhat, Cond.static yX0_needWhat, Cond.code yX0_needWhat cX0_needWhat 2 none, Cond.classLink RX0 123 "java/lang/IndexOutOfBoundsException", Cond.initialized "java/lang/IndexOutOfBoundsException", Cond.methodLink RX0 152 yX0_tellCount, Cond.instanceMethod yX0_tellCount, Cond.selects RX0 yX0_tellCount yX0_tellCount, Cond.code yX0_tellCount cX0_tellCount 2 (some .int), Cond.fieldLink RX0 56 "GloveCutters" "skins" "I", Cond.fieldLink RX0 107 "GloveCutters" "pieces" "I", Cond.fieldLink RX0 136 "GloveCutters" "sewn" "I", Cond.methodLink RX0 197 yX0_piecesAt, Cond.instanceMethod yX0_piecesAt, Cond.selects RX0 yX0_piecesAt yX0_piecesAt, Cond.code yX0_piecesAt cX0_piecesAt 4 (some .int), Cond.fieldLink RX0 27 "GloveCutters" "pieceWhere" "[I", Cond.methodLink RX0 200 yX0_pairsInUse]
def wsL_count_r2 : List Cond := [Cond.instanceMethod yX0_pairsInUse, Cond.selects RX0 yX0_pairsInUse yX0_pairsInUse, Cond.code yX0_pairsInUse cX0_pairsInUse 3 (some .int), Cond.fieldLink RX0 45 "GloveCutters" "pairRipped" "[Z"]
def wsL_count : List Cond := .codeWith yL_count cL_count 4 (some .int) [(0, 9, 12, 21)] :: ((wsL_count_r1 ++ wsL_count_r2) ++ wsX00 ++ (vx_atS RX0 127 "java/lang/IndexOutOfBoundsException" ["java/lang/RuntimeException", "java/lang/Exception"]).filter goodWord)
def wsL_gives_r1 : List Cond := [Cond.classLink RL 21 "java/lang/IndexOutOfBoundsException", Cond.classLink RL 13 "java/lang/IllegalArgumentException", Cond.methodLink RL 54 yX0_gives, Cond.instanceMethod yX0_gives, Cond.selects RX0 yX0_gives yX0_gives, Cond.initialized RX0, Cond.code yX0_gives cX0_gives 4 (some .int), Cond.methodLink RX0 67 yX0_needSkin, Cond.instanceMethod yX0_needSkin, Cond.selects RX0 yX0_needSkin yX0_needSkin, Cond.code yX0_needSkin cX0_needSkin 2 none, Cond.classLink RX0 123 "java/lang/IndexOutOfBoundsException", Cond.initialized "java/lang/IndexOutOfBoundsException", Cond.fieldLink RX0 56 "GloveCutters" "skins" "I", Cond.methodLink RX0 98 yX0_needKind, Cond.static yX0_needKind, Cond.code yX0_needKind cX0_needKind 1 none, Cond.classLink RX0 74 "java/lang/IllegalArgumentException", Cond.initialized "java/lang/IllegalArgumentException", Cond.methodLink RX0 156 yX0_givenBy, Cond.instanceMethod yX0_givenBy, Cond.selects RX0 yX0_givenBy yX0_givenBy, Cond.code yX0_givenBy cX0_givenBy 8 (some .int), Cond.fieldLink RX0 18 "GloveCutters" "skinCells" "[[I"]
def wsL_gives_r2 : List Cond := [Cond.fieldLink RX0 49 "GloveCutters" "trialCells" "[I", Cond.methodLink RX0 213 arraycopyName, Cond.native arraycopyName, Cond.static arraycopyName, Cond.initialized "java/lang/System", Cond.methodLink RX0 112 yX0_wideOf, Cond.static yX0_wideOf, Cond.code yX0_wideOf cX0_wideOf 2 (some .int), Cond.fieldLink RX0 204 "GloveCutters" "KIND_HIGH" "[I", Cond.fieldLink RX0 207 "GloveCutters" "KIND_WIDE" "[I", Cond.methodLink RX0 116 yX0_highOf, Cond.static yX0_highOf, Cond.code yX0_highOf cX0_highOf 2 (some .int), Cond.methodLink RX0 119 yX0_firstFit, Cond.static yX0_firstFit, Cond.code yX0_firstFit cX0_firstFit 5 (some .int), Cond.methodLink RX0 101 yX0_fits, Cond.static yX0_fits, Cond.code yX0_fits cX0_fits 7 (some .boolean), Cond.fieldLink RX0 210 "GloveCutters" "KIND_MOST_THIN" "[I", Cond.methodLink RX0 81 yX0_tally, Cond.static yX0_tally, Cond.code yX0_tally cX0_tally 9 (some .int), Cond.methodLink RX0 87 yX0_paint]
def wsL_gives_r3 : List Cond := [Cond.static yX0_paint, Cond.code yX0_paint cX0_paint 8 none]
def wsL_gives : List Cond := .codeWith yL_gives cL_gives 6 (some .int) [(0, 12, 15, 21), (0, 12, 19, 13)] :: ((wsL_gives_r1 ++ (wsL_gives_r2 ++ wsL_gives_r3)) ++ wsX00 ++ (vx_atS RX0 127 "java/lang/IndexOutOfBoundsException" ["java/lang/RuntimeException", "java/lang/Exception"]).filter goodWord ++ (vx_atS RX0 78 "java/lang/IllegalArgumentException" ["java/lang/RuntimeException", "java/lang/Exception"]).filter goodWord)
def wsL_best_r1 : List Cond := [Cond.classLink RL 13 "java/lang/IllegalArgumentException", Cond.methodLink RL 57 yX0_best, Cond.instanceMethod yX0_best, Cond.selects RX0 yX0_best yX0_best, Cond.initialized RX0, Cond.code yX0_best cX0_best 7 (some .int), Cond.fieldLink RX0 56 "GloveCutters" "skins" "I", Cond.methodLink RX0 98 yX0_needKind, Cond.static yX0_needKind, Cond.code yX0_needKind cX0_needKind 1 none, Cond.classLink RX0 74 "java/lang/IllegalArgumentException", Cond.initialized "java/lang/IllegalArgumentException", Cond.methodLink RX0 156 yX0_givenBy, Cond.instanceMethod yX0_givenBy, Cond.selects RX0 yX0_givenBy yX0_givenBy, Cond.code yX0_givenBy cX0_givenBy 8 (some .int), Cond.fieldLink RX0 18 "GloveCutters" "skinCells" "[[I", Cond.fieldLink RX0 49 "GloveCutters" "trialCells" "[I", Cond.methodLink RX0 213 arraycopyName, Cond.native arraycopyName, Cond.static arraycopyName, Cond.initialized "java/lang/System", Cond.methodLink RX0 112 yX0_wideOf, Cond.static yX0_wideOf]
def wsL_best_r2 : List Cond := [Cond.code yX0_wideOf cX0_wideOf 2 (some .int), Cond.fieldLink RX0 204 "GloveCutters" "KIND_HIGH" "[I", Cond.fieldLink RX0 207 "GloveCutters" "KIND_WIDE" "[I", Cond.methodLink RX0 116 yX0_highOf, Cond.static yX0_highOf, Cond.code yX0_highOf cX0_highOf 2 (some .int), Cond.methodLink RX0 119 yX0_firstFit, Cond.static yX0_firstFit, Cond.code yX0_firstFit cX0_firstFit 5 (some .int), Cond.methodLink RX0 101 yX0_fits, Cond.static yX0_fits, Cond.code yX0_fits cX0_fits 7 (some .boolean), Cond.fieldLink RX0 210 "GloveCutters" "KIND_MOST_THIN" "[I", Cond.methodLink RX0 81 yX0_tally, Cond.static yX0_tally, Cond.code yX0_tally cX0_tally 9 (some .int), Cond.methodLink RX0 87 yX0_paint, Cond.static yX0_paint, Cond.code yX0_paint cX0_paint 8 none]
def wsL_best : List Cond := .codeWith yL_best cL_best 5 (some .int) [(0, 10, 13, 13)] :: ((wsL_best_r1 ++ wsL_best_r2) ++ wsX00 ++ (vx_atS RX0 78 "java/lang/IllegalArgumentException" ["java/lang/RuntimeException", "java/lang/Exception"]).filter goodWord)
def wsL_lacks_r1 : List Cond := [Cond.classLink RL 13 "java/lang/IllegalArgumentException", Cond.methodLink RL 61 yX0_lacks, Cond.instanceMethod yX0_lacks, Cond.selects RX0 yX0_lacks yX0_lacks, Cond.initialized RX0, Cond.code yX0_lacks cX0_lacks 3 (some .int), Cond.methodLink RX0 52 yX0_needColour, Cond.static yX0_needColour, Cond.code yX0_needColour cX0_needColour 1 none, Cond.classLink RX0 74 "java/lang/IllegalArgumentException", Cond.initialized "java/lang/IllegalArgumentException", Cond.methodLink RX0 98 yX0_needKind, Cond.static yX0_needKind, Cond.code yX0_needKind cX0_needKind 1 none, Cond.methodLink RX0 131 yX0_lacking, Cond.instanceMethod yX0_lacking, Cond.selects RX0 yX0_lacking yX0_lacking, Cond.code yX0_lacking cX0_lacking 4 (some .int), Cond.fieldLink RX0 229 "GloveCutters" "KIND_IN_PAIR" "[I", Cond.methodLink RX0 226 Lib.Math.max.name, Cond.static Lib.Math.max.name, Cond.initialized "java/lang/Math", Cond.code Lib.Math.max.name Lib.Math.max.code 2 (some .int), Cond.methodLink RX0 232 yX0_mostTranksOfOneSkin]
def wsL_lacks_r2 : List Cond := [Cond.instanceMethod yX0_mostTranksOfOneSkin, Cond.selects RX0 yX0_mostTranksOfOneSkin yX0_mostTranksOfOneSkin, Cond.code yX0_mostTranksOfOneSkin cX0_mostTranksOfOneSkin 4 (some .int), Cond.fieldLink RX0 56 "GloveCutters" "skins" "I", Cond.fieldLink RX0 9 "GloveCutters" "skinColour" "[I", Cond.methodLink RX0 223 yX0_freeTranks, Cond.instanceMethod yX0_freeTranks, Cond.selects RX0 yX0_freeTranks yX0_freeTranks, Cond.code yX0_freeTranks cX0_freeTranks 4 (some .int), Cond.fieldLink RX0 107 "GloveCutters" "pieces" "I", Cond.fieldLink RX0 27 "GloveCutters" "pieceWhere" "[I", Cond.fieldLink RX0 24 "GloveCutters" "pieceKind" "[I", Cond.fieldLink RX0 21 "GloveCutters" "pieceSkin" "[I", Cond.methodLink RX0 163 yX0_freeOfColour, Cond.instanceMethod yX0_freeOfColour, Cond.selects RX0 yX0_freeOfColour yX0_freeOfColour, Cond.code yX0_freeOfColour cX0_freeOfColour 5 (some .int), Cond.methodLink RX0 219 yX0_isFreeOfColour, Cond.instanceMethod yX0_isFreeOfColour, Cond.selects RX0 yX0_isFreeOfColour yX0_isFreeOfColour, Cond.code yX0_isFreeOfColour cX0_isFreeOfColour 4 (some .boolean)]
def wsL_lacks : List Cond := .codeWith yL_lacks cL_lacks 5 (some .int) [(0, 10, 13, 13)] :: ((wsL_lacks_r1 ++ wsL_lacks_r2) ++ wsX00 ++ (vx_atS RX0 78 "java/lang/IllegalArgumentException" ["java/lang/RuntimeException", "java/lang/Exception"]).filter goodWord)
def wsL_pairs_r1 : List Cond := [Cond.classLink RL 13 "java/lang/IllegalArgumentException", Cond.methodLink RL 64 yX0_pairs, Cond.instanceMethod yX0_pairs, Cond.selects RX0 yX0_pairs yX0_pairs, Cond.initialized RX0, Cond.code yX0_pairs cX0_pairs 4 (some .int), Cond.methodLink RX0 169 Lib.Math.min.name, Cond.static Lib.Math.min.name, Cond.initialized "java/lang/Math", Cond.code Lib.Math.min.name Lib.Math.min.code 2 (some .int), Cond.methodLink RX0 52 yX0_needColour, Cond.static yX0_needColour, Cond.code yX0_needColour cX0_needColour 1 none, Cond.classLink RX0 74 "java/lang/IllegalArgumentException", Cond.initialized "java/lang/IllegalArgumentException", Cond.methodLink RX0 160 yX0_trankPairs, Cond.instanceMethod yX0_trankPairs, Cond.selects RX0 yX0_trankPairs yX0_trankPairs, Cond.code yX0_trankPairs cX0_trankPairs 4 (some .int), Cond.fieldLink RX0 56 "GloveCutters" "skins" "I", Cond.fieldLink RX0 9 "GloveCutters" "skinColour" "[I", Cond.methodLink RX0 223 yX0_freeTranks, Cond.instanceMethod yX0_freeTranks, Cond.selects RX0 yX0_freeTranks yX0_freeTranks]
def wsL_pairs_r2 : List Cond := [Cond.code yX0_freeTranks cX0_freeTranks 4 (some .int), Cond.fieldLink RX0 107 "GloveCutters" "pieces" "I", Cond.fieldLink RX0 27 "GloveCutters" "pieceWhere" "[I", Cond.fieldLink RX0 24 "GloveCutters" "pieceKind" "[I", Cond.fieldLink RX0 21 "GloveCutters" "pieceSkin" "[I", Cond.methodLink RX0 166 yX0_pairsFrom, Cond.static yX0_pairsFrom, Cond.code yX0_pairsFrom cX0_pairsFrom 3 (some .int), Cond.fieldLink RX0 229 "GloveCutters" "KIND_IN_PAIR" "[I", Cond.methodLink RX0 163 yX0_freeOfColour, Cond.instanceMethod yX0_freeOfColour, Cond.selects RX0 yX0_freeOfColour yX0_freeOfColour, Cond.code yX0_freeOfColour cX0_freeOfColour 5 (some .int), Cond.methodLink RX0 219 yX0_isFreeOfColour, Cond.instanceMethod yX0_isFreeOfColour, Cond.selects RX0 yX0_isFreeOfColour yX0_isFreeOfColour, Cond.code yX0_isFreeOfColour cX0_isFreeOfColour 4 (some .boolean)]
def wsL_pairs : List Cond := .codeWith yL_pairs cL_pairs 4 (some .int) [(0, 9, 12, 13)] :: ((wsL_pairs_r1 ++ wsL_pairs_r2) ++ wsX00 ++ (vx_atS RX0 78 "java/lang/IllegalArgumentException" ["java/lang/RuntimeException", "java/lang/Exception"]).filter goodWord)
def wsL_law0_r1 : List Cond := [Cond.classLink RL 8 RX0, Cond.instantiable RX0 16, Cond.initialized RX0, Cond.classLink RL 68 RX1, Cond.instantiable RX1 12, Cond.initialized RX1, Cond.arrayClass .long, Cond.methodLink RL 67 yX0_init, Cond.instanceMethod yX0_init, Cond.code yX0_init cX0_init 1 none, Cond.methodLink RX0 3 objectInit, Cond.instanceMethod objectInit, Cond.code objectInit ⟨#[0xb1]⟩ 1 none, Cond.arrayClass .int, Cond.fieldLink RX0 9 "GloveCutters" "skinColour" "[I", Cond.fieldLink RX0 13 "GloveCutters" "skinPieces" "[I", Cond.classLink RX0 16 "[[I", Cond.fieldLink RX0 18 "GloveCutters" "skinCells" "[[I", Cond.fieldLink RX0 21 "GloveCutters" "pieceSkin" "[I", Cond.fieldLink RX0 24 "GloveCutters" "pieceKind" "[I", Cond.fieldLink RX0 27 "GloveCutters" "pieceWhere" "[I", Cond.fieldLink RX0 30 "GloveCutters" "pieceThin" "[I", Cond.fieldLink RX0 33 "GloveCutters" "pairColour" "[I", Cond.fieldLink RX0 36 "GloveCutters" "pairTrankSkin" "[I"]
def wsL_law0_r2 : List Cond := [Cond.fieldLink RX0 39 "GloveCutters" "pairSkins" "[I", Cond.fieldLink RX0 42 "GloveCutters" "pairThin" "[I", Cond.arrayClass .boolean, Cond.fieldLink RX0 45 "GloveCutters" "pairRipped" "[Z", Cond.fieldLink RX0 49 "GloveCutters" "trialCells" "[I", Cond.methodLink RL 70 yX1_init, Cond.instanceMethod yX1_init, Cond.code yX1_init cX1_init 1 none, Cond.methodLink RX1 3 objectInit, Cond.fieldLink RX1 9 "GloveCuttersModel" "colour" "[I", Cond.fieldLink RX1 13 "GloveCuttersModel" "cells" "[I", Cond.fieldLink RX1 16 "GloveCuttersModel" "skinOf" "[I", Cond.fieldLink RX1 19 "GloveCuttersModel" "kindOf" "[I", Cond.fieldLink RX1 22 "GloveCuttersModel" "pairOf" "[I", Cond.fieldLink RX1 25 "GloveCuttersModel" "thinOf" "[I", Cond.fieldLink RX1 28 "GloveCuttersModel" "book" "[I", Cond.fieldLink RX1 31 "GloveCuttersModel" "trial" "[I", Cond.methodLink RL 71 yL_lay, Cond.static yL_lay, Cond.initialized RL, Cond.codeWith yL_lay cL_lay 4 (some .int) [(0, 9, 12, 13), (0, 9, 15, 15)], Cond.classLink RL 13 "java/lang/IllegalArgumentException", Cond.classLink RL 15 "java/lang/IllegalStateException", Cond.methodLink RL 7 yX0_lay]
def wsL_law0_r3 : List Cond := [Cond.instanceMethod yX0_lay, Cond.selects RX0 yX0_lay yX0_lay, Cond.code yX0_lay cX0_lay 2 (some .int), Cond.classLink RX0 60 "java/lang/IllegalStateException", Cond.initialized "java/lang/IllegalStateException", Cond.fieldLink RX0 56 "GloveCutters" "skins" "I", Cond.methodLink RX0 52 yX0_needColour, Cond.static yX0_needColour, Cond.code yX0_needColour cX0_needColour 1 none, Cond.classLink RX0 74 "java/lang/IllegalArgumentException", Cond.initialized "java/lang/IllegalArgumentException", Cond.methodLink RL 76 yX1_lay, Cond.instanceMethod yX1_lay, Cond.selects RX1 yX1_lay yX1_lay, Cond.code yX1_lay cX1_lay 2 (some .int), Cond.fieldLink RX1 34 "GloveCuttersModel" "thrown" "I", Cond.fieldLink RX1 38 "GloveCuttersModel" "skins" "I", Cond.methodLink RX1 49 yX1_isColour, Cond.static yX1_isColour, Cond.code yX1_isColour cX1_isColour 1 (some .boolean), Cond.methodLink RX1 41 yX1_isIn, Cond.static yX1_isIn, Cond.code yX1_isIn cX1_isIn 3 (some .boolean), Cond.methodLink RX1 52 yX1_no]
def wsL_law0_r4 : List Cond := [Cond.instanceMethod yX1_no, Cond.selects RX1 yX1_no yX1_no, Cond.code yX1_no cX1_no 2 (some .int), Cond.methodLink RL 77 yX1_thrown, Cond.instanceMethod yX1_thrown, Cond.selects RX1 yX1_thrown yX1_thrown, Cond.code yX1_thrown cX1_thrown 1 (some .int), Cond.methodLink RL 81 yL_mark, Cond.static yL_mark, Cond.codeWith yL_mark cL_mark 9 (some .int) [(0, 18, 21, 21), (0, 18, 25, 13), (0, 18, 29, 15)], Cond.classLink RL 21 "java/lang/IndexOutOfBoundsException", Cond.methodLink RL 17 yX0_mark, Cond.instanceMethod yX0_mark, Cond.selects RX0 yX0_mark yX0_mark, Cond.code yX0_mark cX0_mark 9 (some .int), Cond.methodLink RX0 67 yX0_needSkin, Cond.instanceMethod yX0_needSkin, Cond.selects RX0 yX0_needSkin yX0_needSkin, Cond.code yX0_needSkin cX0_needSkin 2 none, Cond.classLink RX0 123 "java/lang/IndexOutOfBoundsException", Cond.initialized "java/lang/IndexOutOfBoundsException", Cond.methodLink RX0 70 yX0_needCell, Cond.static yX0_needCell, Cond.code yX0_needCell cX0_needCell 2 none]
def wsL_law0_r5 : List Cond := [Cond.methodLink RX0 81 yX0_tally, Cond.static yX0_tally, Cond.code yX0_tally cX0_tally 9 (some .int), Cond.methodLink RX0 87 yX0_paint, Cond.static yX0_paint, Cond.code yX0_paint cX0_paint 8 none, Cond.methodLink RL 84 yX1_mark, Cond.instanceMethod yX1_mark, Cond.selects RX1 yX1_mark yX1_mark, Cond.code yX1_mark cX1_mark 9 (some .int), Cond.methodLink RX1 56 yX1_isCell, Cond.instanceMethod yX1_isCell, Cond.selects RX1 yX1_isCell yX1_isCell, Cond.code yX1_isCell cX1_isCell 4 (some .boolean), Cond.methodLink RX1 45 yX1_isSkin, Cond.instanceMethod yX1_isSkin, Cond.selects RX1 yX1_isSkin yX1_isSkin, Cond.code yX1_isSkin cX1_isSkin 2 (some .boolean), Cond.methodLink RX1 59 yX1_many, Cond.static yX1_many, Cond.code yX1_many cX1_many 7 (some .int), Cond.methodLink RX1 63 yX1_fill, Cond.static yX1_fill, Cond.code yX1_fill cX1_fill 6 none]
def wsL_law0_r6 : List Cond := [Cond.methodLink RL 85 yL_cell, Cond.static yL_cell, Cond.codeWith yL_cell cL_cell 6 (some .int) [(0, 12, 15, 21)], Cond.methodLink RL 23 yX0_cell, Cond.instanceMethod yX0_cell, Cond.selects RX0 yX0_cell yX0_cell, Cond.code yX0_cell cX0_cell 4 (some .int), Cond.methodLink RL 88 yX1_cell, Cond.instanceMethod yX1_cell, Cond.selects RX1 yX1_cell yX1_cell, Cond.code yX1_cell cX1_cell 4 (some .int), Cond.methodLink RL 89 yL_skin, Cond.static yL_skin, Cond.codeWith yL_skin cL_skin 5 (some .int) [(0, 10, 13, 21)], Cond.methodLink RL 27 yX0_skin, Cond.instanceMethod yX0_skin, Cond.selects RX0 yX0_skin yX0_skin, Cond.code yX0_skin cX0_skin 3 (some .int), Cond.methodLink RX0 91 yX0_needWhat, Cond.static yX0_needWhat, Cond.code yX0_needWhat cX0_needWhat 2 none, Cond.methodLink RX0 94 yX0_tellSkin, Cond.instanceMethod yX0_tellSkin, Cond.selects RX0 yX0_tellSkin yX0_tellSkin]
def wsL_law0_r7 : List Cond := [Cond.code yX0_tellSkin cX0_tellSkin 3 (some .int), Cond.methodLink RX0 174 yX0_tallySkin, Cond.instanceMethod yX0_tallySkin, Cond.selects RX0 yX0_tallySkin yX0_tallySkin, Cond.code yX0_tallySkin cX0_tallySkin 3 (some .int), Cond.methodLink RL 92 yX1_skin, Cond.instanceMethod yX1_skin, Cond.selects RX1 yX1_skin yX1_skin, Cond.code yX1_skin cX1_skin 3 (some .int), Cond.methodLink RX1 73 yX1_skinTold, Cond.instanceMethod yX1_skinTold, Cond.selects RX1 yX1_skinTold yX1_skinTold, Cond.code yX1_skinTold cX1_skinTold 3 (some .int), Cond.methodLink RX1 70 yX1_piecesOf, Cond.instanceMethod yX1_piecesOf, Cond.selects RX1 yX1_piecesOf yX1_piecesOf, Cond.code yX1_piecesOf cX1_piecesOf 4 (some .int), Cond.fieldLink RX1 67 "GloveCuttersModel" "pieces" "I", Cond.methodLink RL 93 yL_cut, Cond.static yL_cut, Cond.codeWith yL_cut cL_cut 8 (some .int) [(0, 16, 19, 21), (0, 16, 23, 13), (0, 16, 27, 15)], Cond.methodLink RL 31 yX0_cut, Cond.instanceMethod yX0_cut, Cond.selects RX0 yX0_cut yX0_cut]
def wsL_law0_r8 : List Cond := [Cond.code yX0_cut cX0_cut 9 (some .int), Cond.fieldLink RX0 107 "GloveCutters" "pieces" "I", Cond.methodLink RX0 98 yX0_needKind, Cond.static yX0_needKind, Cond.code yX0_needKind cX0_needKind 1 none, Cond.methodLink RX0 101 yX0_fits, Cond.static yX0_fits, Cond.code yX0_fits cX0_fits 7 (some .boolean), Cond.fieldLink RX0 210 "GloveCutters" "KIND_MOST_THIN" "[I", Cond.methodLink RX0 112 yX0_wideOf, Cond.static yX0_wideOf, Cond.code yX0_wideOf cX0_wideOf 2 (some .int), Cond.fieldLink RX0 204 "GloveCutters" "KIND_HIGH" "[I", Cond.fieldLink RX0 207 "GloveCutters" "KIND_WIDE" "[I", Cond.methodLink RX0 116 yX0_highOf, Cond.static yX0_highOf, Cond.code yX0_highOf cX0_highOf 2 (some .int), Cond.methodLink RL 96 yX1_cut, Cond.instanceMethod yX1_cut, Cond.selects RX1 yX1_cut yX1_cut, Cond.code yX1_cut cX1_cut 8 (some .int), Cond.methodLink RX1 94 yX1_isKind, Cond.static yX1_isKind, Cond.code yX1_isKind cX1_isKind 1 (some .boolean)]
def wsL_law0_r9 : List Cond := [Cond.methodLink RX1 90 yX1_can, Cond.static yX1_can, Cond.code yX1_can cX1_can 9 (some .boolean), Cond.methodLink RX1 83 yX1_wideOf, Cond.static yX1_wideOf, Cond.code yX1_wideOf cX1_wideOf 2 (some .int), Cond.fieldLink RX1 77 "GloveCuttersModel" "DOWN" "[I", Cond.fieldLink RX1 80 "GloveCuttersModel" "ACROSS" "[I", Cond.methodLink RX1 87 yX1_highOf, Cond.static yX1_highOf, Cond.code yX1_highOf cX1_highOf 2 (some .int), Cond.methodLink RL 97 yL_place, Cond.static yL_place, Cond.codeWith yL_place cL_place 6 (some .int) [(0, 12, 15, 21), (0, 12, 19, 13)], Cond.methodLink RL 35 yX0_place, Cond.instanceMethod yX0_place, Cond.selects RX0 yX0_place yX0_place, Cond.code yX0_place cX0_place 4 (some .int), Cond.methodLink RX0 119 yX0_firstFit, Cond.static yX0_firstFit, Cond.code yX0_firstFit cX0_firstFit 5 (some .int), Cond.methodLink RL 100 yX1_place, Cond.instanceMethod yX1_place, Cond.selects RX1 yX1_place yX1_place]
def wsL_law0_r10 : List Cond := [Cond.code yX1_place cX1_place 4 (some .int), Cond.methodLink RX1 97 yX1_first, Cond.static yX1_first, Cond.code yX1_first cX1_first 5 (some .int), Cond.methodLink RL 101 yL_piece, Cond.static yL_piece, Cond.codeWith yL_piece cL_piece 5 (some .int) [(0, 10, 13, 21)], Cond.methodLink RL 39 yX0_piece, Cond.instanceMethod yX0_piece, Cond.selects RX0 yX0_piece yX0_piece, Cond.code yX0_piece cX0_piece 3 (some .int), Cond.methodLink RX0 128 yX0_tellPiece, Cond.instanceMethod yX0_tellPiece, Cond.selects RX0 yX0_tellPiece yX0_tellPiece, Cond.code yX0_tellPiece cX0_tellPiece 3 (some .int), Cond.methodLink RL 103 yX1_piece, Cond.instanceMethod yX1_piece, Cond.selects RX1 yX1_piece yX1_piece, Cond.code yX1_piece cX1_piece 3 (some .int), Cond.methodLink RX1 101 yX1_pieceTold, Cond.instanceMethod yX1_pieceTold, Cond.selects RX1 yX1_pieceTold yX1_pieceTold, Cond.code yX1_pieceTold cX1_pieceTold 3 (some .int), Cond.methodLink RL 104 yL_sew]
def wsL_law0_r11 : List Cond := [Cond.static yL_sew, Cond.codeWith yL_sew cL_sew 4 (some .int) [(0, 9, 12, 13), (0, 9, 15, 15)], Cond.methodLink RL 42 yX0_sew, Cond.instanceMethod yX0_sew, Cond.selects RX0 yX0_sew yX0_sew, Cond.code yX0_sew cX0_sew 3 (some .int), Cond.fieldLink RX0 136 "GloveCutters" "sewn" "I", Cond.methodLink RX0 131 yX0_lacking, Cond.instanceMethod yX0_lacking, Cond.selects RX0 yX0_lacking yX0_lacking, Cond.code yX0_lacking cX0_lacking 4 (some .int), Cond.fieldLink RX0 229 "GloveCutters" "KIND_IN_PAIR" "[I", Cond.methodLink RX0 226 Lib.Math.max.name, Cond.static Lib.Math.max.name, Cond.initialized "java/lang/Math", Cond.code Lib.Math.max.name Lib.Math.max.code 2 (some .int), Cond.methodLink RX0 232 yX0_mostTranksOfOneSkin, Cond.instanceMethod yX0_mostTranksOfOneSkin, Cond.selects RX0 yX0_mostTranksOfOneSkin yX0_mostTranksOfOneSkin, Cond.code yX0_mostTranksOfOneSkin cX0_mostTranksOfOneSkin 4 (some .int), Cond.methodLink RX0 223 yX0_freeTranks, Cond.instanceMethod yX0_freeTranks, Cond.selects RX0 yX0_freeTranks yX0_freeTranks, Cond.code yX0_freeTranks cX0_freeTranks 4 (some .int)]
def wsL_law0_r12 : List Cond := [Cond.methodLink RX0 163 yX0_freeOfColour, Cond.instanceMethod yX0_freeOfColour, Cond.selects RX0 yX0_freeOfColour yX0_freeOfColour, Cond.code yX0_freeOfColour cX0_freeOfColour 5 (some .int), Cond.methodLink RX0 219 yX0_isFreeOfColour, Cond.instanceMethod yX0_isFreeOfColour, Cond.selects RX0 yX0_isFreeOfColour yX0_isFreeOfColour, Cond.code yX0_isFreeOfColour cX0_isFreeOfColour 4 (some .boolean), Cond.methodLink RX0 141 yX0_enterPair, Cond.instanceMethod yX0_enterPair, Cond.selects RX0 yX0_enterPair yX0_enterPair, Cond.code yX0_enterPair cX0_enterPair 8 none, Cond.methodLink RX0 235 yX0_firstSkinWithTranks, Cond.instanceMethod yX0_firstSkinWithTranks, Cond.selects RX0 yX0_firstSkinWithTranks yX0_firstSkinWithTranks, Cond.code yX0_firstSkinWithTranks cX0_firstSkinWithTranks 3 (some .int), Cond.methodLink RX0 238 yJ6_bitCount_0f7a4, Cond.static yJ6_bitCount_0f7a4, Cond.initialized RJ6, Cond.code yJ6_bitCount_0f7a4 cJ6_bitCount_0f7a4 1 (some .int), Cond.constant RJ6 265 (1431655765), Cond.constant RJ6 266 (858993459), Cond.constant RJ6 267 (252645135), Cond.methodLink RL 106 yX1_sew]
def wsL_law0_r13 : List Cond := [Cond.instanceMethod yX1_sew, Cond.selects RX1 yX1_sew yX1_sew, Cond.code yX1_sew cX1_sew 6 (some .int), Cond.fieldLink RX1 119 "GloveCuttersModel" "pairs" "I", Cond.methodLink RX1 134 arraycopyName, Cond.native arraycopyName, Cond.static arraycopyName, Cond.initialized "java/lang/System", Cond.methodLink RX1 122 yX1_canSew, Cond.instanceMethod yX1_canSew, Cond.selects RX1 yX1_canSew yX1_canSew, Cond.code yX1_canSew cX1_canSew 4 (some .boolean), Cond.fieldLink RX1 116 "GloveCuttersModel" "NEEDS" "[I", Cond.methodLink RX1 110 yX1_trankSkin, Cond.instanceMethod yX1_trankSkin, Cond.selects RX1 yX1_trankSkin yX1_trankSkin, Cond.code yX1_trankSkin cX1_trankSkin 3 (some .int), Cond.methodLink RX1 107 yX1_tranks, Cond.instanceMethod yX1_tranks, Cond.selects RX1 yX1_tranks yX1_tranks, Cond.code yX1_tranks cX1_tranks 4 (some .int), Cond.methodLink RX1 104 yX1_isFree, Cond.instanceMethod yX1_isFree, Cond.selects RX1 yX1_isFree yX1_isFree]
def wsL_law0_r14 : List Cond := [Cond.code yX1_isFree cX1_isFree 4 (some .boolean), Cond.methodLink RX1 113 yX1_free, Cond.instanceMethod yX1_free, Cond.selects RX1 yX1_free yX1_free, Cond.code yX1_free cX1_free 5 (some .int), Cond.methodLink RX1 125 yX1_take, Cond.instanceMethod yX1_take, Cond.selects RX1 yX1_take yX1_take, Cond.code yX1_take cX1_take 6 none, Cond.methodLink RX1 129 yJ6_bitCount_0f7a4, Cond.methodLink RL 107 yL_rip, Cond.static yL_rip, Cond.codeWith yL_rip cL_rip 4 (some .int) [(0, 9, 12, 21), (0, 9, 15, 15)], Cond.methodLink RL 45 yX0_rip, Cond.instanceMethod yX0_rip, Cond.selects RX0 yX0_rip yX0_rip, Cond.code yX0_rip cX0_rip 5 (some .int), Cond.methodLink RX0 144 yX0_needPair, Cond.instanceMethod yX0_needPair, Cond.selects RX0 yX0_needPair yX0_needPair, Cond.code yX0_needPair cX0_needPair 2 none, Cond.methodLink RL 109 yX1_rip, Cond.instanceMethod yX1_rip, Cond.selects RX1 yX1_rip yX1_rip]
def wsL_law0_r15 : List Cond := [Cond.code yX1_rip cX1_rip 4 (some .int), Cond.methodLink RL 110 yL_pair, Cond.static yL_pair, Cond.codeWith yL_pair cL_pair 5 (some .int) [(0, 10, 13, 21)], Cond.methodLink RL 48 yX0_pair, Cond.instanceMethod yX0_pair, Cond.selects RX0 yX0_pair yX0_pair, Cond.code yX0_pair cX0_pair 3 (some .int), Cond.methodLink RX0 149 yX0_tellPair, Cond.instanceMethod yX0_tellPair, Cond.selects RX0 yX0_tellPair yX0_tellPair, Cond.code yX0_tellPair cX0_tellPair 3 (some .int), Cond.methodLink RL 112 yX1_pair, Cond.instanceMethod yX1_pair, Cond.selects RX1 yX1_pair yX1_pair, Cond.code yX1_pair cX1_pair 3 (some .int), Cond.methodLink RL 113 yL_count, Cond.static yL_count, Cond.codeWith yL_count cL_count 4 (some .int) [(0, 9, 12, 21)], Cond.methodLink RL 51 yX0_count, Cond.instanceMethod yX0_count, Cond.selects RX0 yX0_count yX0_count, Cond.code yX0_count cX0_count 2 (some .int), Cond.methodLink RX0 152 yX0_tellCount]
def wsL_law0_r16 : List Cond := [Cond.instanceMethod yX0_tellCount, Cond.selects RX0 yX0_tellCount yX0_tellCount, Cond.code yX0_tellCount cX0_tellCount 2 (some .int), Cond.methodLink RX0 197 yX0_piecesAt, Cond.instanceMethod yX0_piecesAt, Cond.selects RX0 yX0_piecesAt yX0_piecesAt, Cond.code yX0_piecesAt cX0_piecesAt 4 (some .int), Cond.methodLink RX0 200 yX0_pairsInUse, Cond.instanceMethod yX0_pairsInUse, Cond.selects RX0 yX0_pairsInUse yX0_pairsInUse, Cond.code yX0_pairsInUse cX0_pairsInUse 3 (some .int), Cond.methodLink RL 115 yX1_count, Cond.instanceMethod yX1_count, Cond.selects RX1 yX1_count yX1_count, Cond.code yX1_count cX1_count 2 (some .int), Cond.methodLink RX1 140 yX1_counted, Cond.instanceMethod yX1_counted, Cond.selects RX1 yX1_counted yX1_counted, Cond.code yX1_counted cX1_counted 5 (some .int), Cond.methodLink RL 116 yL_gives, Cond.static yL_gives, Cond.codeWith yL_gives cL_gives 6 (some .int) [(0, 12, 15, 21), (0, 12, 19, 13)], Cond.methodLink RL 54 yX0_gives, Cond.instanceMethod yX0_gives]
def wsL_law0_r17 : List Cond := [Cond.selects RX0 yX0_gives yX0_gives, Cond.code yX0_gives cX0_gives 4 (some .int), Cond.methodLink RX0 156 yX0_givenBy, Cond.instanceMethod yX0_givenBy, Cond.selects RX0 yX0_givenBy yX0_givenBy, Cond.code yX0_givenBy cX0_givenBy 8 (some .int), Cond.methodLink RX0 213 arraycopyName, Cond.methodLink RL 118 yX1_gives, Cond.instanceMethod yX1_gives, Cond.selects RX1 yX1_gives yX1_gives, Cond.code yX1_gives cX1_gives 4 (some .int), Cond.methodLink RX1 143 yX1_given, Cond.instanceMethod yX1_given, Cond.selects RX1 yX1_given yX1_given, Cond.code yX1_given cX1_given 6 (some .int), Cond.methodLink RL 119 yL_best, Cond.static yL_best, Cond.codeWith yL_best cL_best 5 (some .int) [(0, 10, 13, 13)], Cond.methodLink RL 57 yX0_best, Cond.instanceMethod yX0_best, Cond.selects RX0 yX0_best yX0_best, Cond.code yX0_best cX0_best 7 (some .int), Cond.methodLink RL 122 yX1_best, Cond.instanceMethod yX1_best]
def wsL_law0_r18 : List Cond := [Cond.selects RX1 yX1_best yX1_best, Cond.code yX1_best cX1_best 7 (some .int), Cond.methodLink RL 123 yL_lacks, Cond.static yL_lacks, Cond.codeWith yL_lacks cL_lacks 5 (some .int) [(0, 10, 13, 13)], Cond.methodLink RL 61 yX0_lacks, Cond.instanceMethod yX0_lacks, Cond.selects RX0 yX0_lacks yX0_lacks, Cond.code yX0_lacks cX0_lacks 3 (some .int), Cond.methodLink RL 125 yX1_lacks, Cond.instanceMethod yX1_lacks, Cond.selects RX1 yX1_lacks yX1_lacks, Cond.code yX1_lacks cX1_lacks 5 (some .int), Cond.methodLink RX1 147 Lib.Math.max.name, Cond.methodLink RL 126 yL_pairs, Cond.static yL_pairs, Cond.codeWith yL_pairs cL_pairs 4 (some .int) [(0, 9, 12, 13)], Cond.methodLink RL 64 yX0_pairs, Cond.instanceMethod yX0_pairs, Cond.selects RX0 yX0_pairs yX0_pairs, Cond.code yX0_pairs cX0_pairs 4 (some .int), Cond.methodLink RX0 169 Lib.Math.min.name, Cond.static Lib.Math.min.name, Cond.code Lib.Math.min.name Lib.Math.min.code 2 (some .int)]
def wsL_law0_r19 : List Cond := [Cond.methodLink RX0 160 yX0_trankPairs, Cond.instanceMethod yX0_trankPairs, Cond.selects RX0 yX0_trankPairs yX0_trankPairs, Cond.code yX0_trankPairs cX0_trankPairs 4 (some .int), Cond.methodLink RX0 166 yX0_pairsFrom, Cond.static yX0_pairsFrom, Cond.code yX0_pairsFrom cX0_pairsFrom 3 (some .int), Cond.methodLink RL 128 yX1_pairs, Cond.instanceMethod yX1_pairs, Cond.selects RX1 yX1_pairs yX1_pairs, Cond.code yX1_pairs cX1_pairs 4 (some .int), Cond.methodLink RX1 152 Lib.Math.min.name, Cond.methodLink RL 129 yX0_share, Cond.instanceMethod yX0_share, Cond.selects RX0 yX0_share yX0_share, Cond.code yX0_share cX0_share 4 (some .double), Cond.methodLink RL 133 yX1_share, Cond.instanceMethod yX1_share, Cond.selects RX1 yX1_share yX1_share, Cond.code yX1_share cX1_share 4 (some .double), Cond.methodLink RL 134 yX0_digest, Cond.instanceMethod yX0_digest, Cond.selects RX0 yX0_digest yX0_digest, Cond.code yX0_digest cX0_digest 5 (some .long)]
def wsL_law0_r20 : List Cond := [Cond.constantLong RX0 177 (1087), Cond.constantLong RX0 179 (31), Cond.methodLink RX0 181 yX0_digestSkin, Cond.instanceMethod yX0_digestSkin, Cond.selects RX0 yX0_digestSkin yX0_digestSkin, Cond.code yX0_digestSkin cX0_digestSkin 7 (some .long), Cond.methodLink RL 138 yX1_digest, Cond.instanceMethod yX1_digest, Cond.selects RX1 yX1_digest yX1_digest, Cond.code yX1_digest cX1_digest 5 (some .long), Cond.constantLong RX1 155 (1087), Cond.constantLong RX1 157 (31)]
def wsL_law0 : List Cond := (wsL_law0_r1 ++ (wsL_law0_r2 ++ (wsL_law0_r3 ++ (wsL_law0_r4 ++ (wsL_law0_r5 ++ (wsL_law0_r6 ++ (wsL_law0_r7 ++ (wsL_law0_r8 ++ (wsL_law0_r9 ++ (wsL_law0_r10 ++ (wsL_law0_r11 ++ (wsL_law0_r12 ++ (wsL_law0_r13 ++ (wsL_law0_r14 ++ (wsL_law0_r15 ++ (wsL_law0_r16 ++ (wsL_law0_r17 ++ (wsL_law0_r18 ++ (wsL_law0_r19 ++ wsL_law0_r20))))))))))))))))))) ++ wsX00 ++ wsX10 ++ ([] : List Cond)
def wsL_law : List Cond := wsL_law0 ++ (vx_atS RX0 64 "java/lang/IllegalStateException" ["java/lang/RuntimeException", "java/lang/Exception"]).filter goodWord ++ (vx_atS RX0 78 "java/lang/IllegalArgumentException" ["java/lang/RuntimeException", "java/lang/Exception"]).filter goodWord ++ (vx_atS RX0 127 "java/lang/IndexOutOfBoundsException" ["java/lang/RuntimeException", "java/lang/Exception"]).filter goodWord
abbrev vwCl : List vw_C := [(RX0, TX0, 16), (RX1, TX1, 12)]
end
section
theorem dX0_init_0 : decode cX0_init 0 = .ok (.aload_n 0, 1) := by decide +kernel
theorem dX0_init_1 : decode cX0_init 1 = .ok (.invokespecial 3, 3) := by decide +kernel
theorem dX0_init_4 : decode cX0_init 4 = .ok (.aload_n 0, 1) := by decide +kernel
theorem dX0_init_5 : decode cX0_init 5 = .ok (.bipush 10, 2) := by decide +kernel
theorem dX0_init_7 : decode cX0_init 7 = .ok (.newarray .int, 2) := by decide +kernel
theorem dX0_init_9 : decode cX0_init 9 = .ok (.putfield 9, 3) := by decide +kernel
theorem dX0_init_12 : decode cX0_init 12 = .ok (.aload_n 0, 1) := by decide +kernel
theorem dX0_init_13 : decode cX0_init 13 = .ok (.bipush 10, 2) := by decide +kernel
theorem dX0_init_15 : decode cX0_init 15 = .ok (.newarray .int, 2) := by decide +kernel
theorem dX0_init_17 : decode cX0_init 17 = .ok (.putfield 13, 3) := by decide +kernel
theorem dX0_init_20 : decode cX0_init 20 = .ok (.aload_n 0, 1) := by decide +kernel
theorem dX0_init_21 : decode cX0_init 21 = .ok (.bipush 10, 2) := by decide +kernel
theorem dX0_init_23 : decode cX0_init 23 = .ok (.bipush 96, 2) := by decide +kernel
theorem dX0_init_25 : decode cX0_init 25 = .ok (.multianewarray 16 2, 4) := by decide +kernel
theorem dX0_init_29 : decode cX0_init 29 = .ok (.putfield 18, 3) := by decide +kernel
theorem dX0_init_32 : decode cX0_init 32 = .ok (.aload_n 0, 1) := by decide +kernel
theorem dX0_init_33 : decode cX0_init 33 = .ok (.sipush 150, 3) := by decide +kernel
theorem dX0_init_36 : decode cX0_init 36 = .ok (.newarray .int, 2) := by decide +kernel
theorem dX0_init_38 : decode cX0_init 38 = .ok (.putfield 21, 3) := by decide +kernel
theorem dX0_init_41 : decode cX0_init 41 = .ok (.aload_n 0, 1) := by decide +kernel
theorem dX0_init_42 : decode cX0_init 42 = .ok (.sipush 150, 3) := by decide +kernel
theorem dX0_init_45 : decode cX0_init 45 = .ok (.newarray .int, 2) := by decide +kernel
theorem dX0_init_47 : decode cX0_init 47 = .ok (.putfield 24, 3) := by decide +kernel
theorem dX0_init_50 : decode cX0_init 50 = .ok (.aload_n 0, 1) := by decide +kernel
theorem dX0_init_51 : decode cX0_init 51 = .ok (.sipush 150, 3) := by decide +kernel
theorem dX0_init_54 : decode cX0_init 54 = .ok (.newarray .int, 2) := by decide +kernel
theorem dX0_init_56 : decode cX0_init 56 = .ok (.putfield 27, 3) := by decide +kernel
theorem dX0_init_59 : decode cX0_init 59 = .ok (.aload_n 0, 1) := by decide +kernel
theorem dX0_init_60 : decode cX0_init 60 = .ok (.sipush 150, 3) := by decide +kernel
theorem dX0_init_63 : decode cX0_init 63 = .ok (.newarray .int, 2) := by decide +kernel
theorem dX0_init_65 : decode cX0_init 65 = .ok (.putfield 30, 3) := by decide +kernel
theorem dX0_init_68 : decode cX0_init 68 = .ok (.aload_n 0, 1) := by decide +kernel
theorem dX0_init_69 : decode cX0_init 69 = .ok (.bipush 20, 2) := by decide +kernel
theorem dX0_init_71 : decode cX0_init 71 = .ok (.newarray .int, 2) := by decide +kernel
theorem dX0_init_73 : decode cX0_init 73 = .ok (.putfield 33, 3) := by decide +kernel
theorem dX0_init_76 : decode cX0_init 76 = .ok (.aload_n 0, 1) := by decide +kernel
theorem dX0_init_77 : decode cX0_init 77 = .ok (.bipush 20, 2) := by decide +kernel
theorem dX0_init_79 : decode cX0_init 79 = .ok (.newarray .int, 2) := by decide +kernel
theorem dX0_init_81 : decode cX0_init 81 = .ok (.putfield 36, 3) := by decide +kernel
theorem dX0_init_84 : decode cX0_init 84 = .ok (.aload_n 0, 1) := by decide +kernel
theorem dX0_init_85 : decode cX0_init 85 = .ok (.bipush 20, 2) := by decide +kernel
theorem dX0_init_87 : decode cX0_init 87 = .ok (.newarray .int, 2) := by decide +kernel
theorem dX0_init_89 : decode cX0_init 89 = .ok (.putfield 39, 3) := by decide +kernel
theorem dX0_init_92 : decode cX0_init 92 = .ok (.aload_n 0, 1) := by decide +kernel
theorem dX0_init_93 : decode cX0_init 93 = .ok (.bipush 20, 2) := by decide +kernel
theorem dX0_init_95 : decode cX0_init 95 = .ok (.newarray .int, 2) := by decide +kernel
theorem dX0_init_97 : decode cX0_init 97 = .ok (.putfield 42, 3) := by decide +kernel
theorem dX0_init_100 : decode cX0_init 100 = .ok (.aload_n 0, 1) := by decide +kernel
theorem dX0_init_101 : decode cX0_init 101 = .ok (.bipush 20, 2) := by decide +kernel
theorem dX0_init_103 : decode cX0_init 103 = .ok (.newarray .boolean, 2) := by decide +kernel
theorem dX0_init_105 : decode cX0_init 105 = .ok (.putfield 45, 3) := by decide +kernel
theorem dX0_init_108 : decode cX0_init 108 = .ok (.aload_n 0, 1) := by decide +kernel
theorem dX0_init_109 : decode cX0_init 109 = .ok (.bipush 96, 2) := by decide +kernel
theorem dX0_init_111 : decode cX0_init 111 = .ok (.newarray .int, 2) := by decide +kernel
theorem dX0_init_113 : decode cX0_init 113 = .ok (.putfield 49, 3) := by decide +kernel
theorem dX0_init_116 : decode cX0_init 116 = .ok (.return_, 1) := by decide +kernel
set_option maxRecDepth 20000 in
theorem ggX0_lay_X0_needColour : GoodIn wsX0_lay wsX0_needColour := goodIn_ca (goodIn_r _ [8, 9, 10] (by decide +kernel) (by decide +kernel)) (goodIn_sub (fun _ h => List.mem_cons_of_mem _ (List.mem_append_right _ h)) (by decide +kernel))
set_option maxRecDepth 20000 in
theorem gX0_lay_X0_needColour : GoodIn wsX0_lay (va_wsS RX0 52 yX0_needColour wsX0_needColour) := goodIn_app (goodIn_of _ (by decide +kernel)) ggX0_lay_X0_needColour
theorem dX0_lay_0 : decode cX0_lay 0 = .ok (.iload_n 1, 1) := by decide +kernel
theorem dX0_lay_1 : decode cX0_lay 1 = .ok (.invokestatic 52, 3) := by decide +kernel
theorem dX0_lay_4 : decode cX0_lay 4 = .ok (.aload_n 0, 1) := by decide +kernel
theorem dX0_lay_5 : decode cX0_lay 5 = .ok (.getfield 56, 3) := by decide +kernel
theorem dX0_lay_8 : decode cX0_lay 8 = .ok (.bipush 10, 2) := by decide +kernel
theorem dX0_lay_10 : decode cX0_lay 10 = .ok (.if_icmp .lt 13, 3) := by decide +kernel
theorem dX0_lay_13 : decode cX0_lay 13 = .ok (.new 60, 3) := by decide +kernel
theorem dX0_lay_16 : decode cX0_lay 16 = .ok (.dup, 1) := by decide +kernel
theorem dX0_lay_17 : decode cX0_lay 17 = .ok (.ldc 62, 2) := by decide +kernel
theorem dX0_lay_19 : decode cX0_lay 19 = .ok (.invokespecial 64, 3) := by decide +kernel
theorem dX0_lay_22 : decode cX0_lay 22 = .ok (.athrow, 1) := by decide +kernel
theorem dX0_lay_23 : decode cX0_lay 23 = .ok (.aload_n 0, 1) := by decide +kernel
theorem dX0_lay_24 : decode cX0_lay 24 = .ok (.getfield 9, 3) := by decide +kernel
theorem dX0_lay_27 : decode cX0_lay 27 = .ok (.aload_n 0, 1) := by decide +kernel
theorem dX0_lay_28 : decode cX0_lay 28 = .ok (.getfield 56, 3) := by decide +kernel
theorem dX0_lay_31 : decode cX0_lay 31 = .ok (.iload_n 1, 1) := by decide +kernel
theorem dX0_lay_32 : decode cX0_lay 32 = .ok (.iastore, 1) := by decide +kernel
theorem dX0_lay_33 : decode cX0_lay 33 = .ok (.aload_n 0, 1) := by decide +kernel
theorem dX0_lay_34 : decode cX0_lay 34 = .ok (.dup, 1) := by decide +kernel
theorem dX0_lay_35 : decode cX0_lay 35 = .ok (.getfield 56, 3) := by decide +kernel
theorem dX0_lay_38 : decode cX0_lay 38 = .ok (.iconst 1, 1) := by decide +kernel
theorem dX0_lay_39 : decode cX0_lay 39 = .ok (.iadd, 1) := by decide +kernel
theorem dX0_lay_40 : decode cX0_lay 40 = .ok (.putfield 56, 3) := by decide +kernel
theorem dX0_lay_43 : decode cX0_lay 43 = .ok (.aload_n 0, 1) := by decide +kernel
theorem dX0_lay_44 : decode cX0_lay 44 = .ok (.getfield 56, 3) := by decide +kernel
theorem dX0_lay_47 : decode cX0_lay 47 = .ok (.iconst 1, 1) := by decide +kernel
theorem dX0_lay_48 : decode cX0_lay 48 = .ok (.isub, 1) := by decide +kernel
theorem dX0_lay_49 : decode cX0_lay 49 = .ok (.ireturn, 1) := by decide +kernel
set_option maxRecDepth 20000 in
theorem ggX0_mark_X0_needSkin : GoodIn wsX0_mark wsX0_needSkin := goodIn_ca (goodIn_r _ [10, 11, 12, 13, 23, 24, 25, 26, 27, 28, 29, 30, 31, 32, 33, 34, 35, 36, 37, 38] (by decide +kernel) (by decide +kernel)) (goodIn_sub (fun _ h => List.mem_cons_of_mem _ (List.mem_append_right _ h)) (by decide +kernel))
set_option maxRecDepth 20000 in
theorem gX0_mark_X0_needSkin : GoodIn wsX0_mark (wsV RX0 67 RX0 yX0_needSkin wsX0_needSkin) := goodIn_app (goodIn_of _ (by decide +kernel)) ggX0_mark_X0_needSkin
set_option maxRecDepth 20000 in
theorem ggX0_mark_X0_needCell : GoodIn wsX0_mark wsX0_needCell := goodIn_ca (goodIn_r _ [16, 11, 12] (by decide +kernel) (by decide +kernel)) (goodIn_sub (fun _ h => List.mem_cons_of_mem _ (List.mem_append_right _ h)) (by decide +kernel))
set_option maxRecDepth 20000 in
theorem gX0_mark_X0_needCell : GoodIn wsX0_mark (va_wsS RX0 70 yX0_needCell wsX0_needCell) := goodIn_app (goodIn_of _ (by decide +kernel)) ggX0_mark_X0_needCell
set_option maxRecDepth 20000 in
theorem ggX0_mark_X0_tally : GoodIn wsX0_mark wsX0_tally := goodIn_r _ [19] (by decide +kernel) (by decide +kernel)
set_option maxRecDepth 20000 in
theorem gX0_mark_X0_tally : GoodIn wsX0_mark (va_wsS RX0 81 yX0_tally wsX0_tally) := goodIn_app (goodIn_of _ (by decide +kernel)) ggX0_mark_X0_tally
set_option maxRecDepth 20000 in
theorem ggX0_mark_X0_paint : GoodIn wsX0_mark wsX0_paint := goodIn_r _ [22] (by decide +kernel) (by decide +kernel)
set_option maxRecDepth 20000 in
theorem gX0_mark_X0_paint : GoodIn wsX0_mark (va_wsS RX0 87 yX0_paint wsX0_paint) := goodIn_app (goodIn_of _ (by decide +kernel)) ggX0_mark_X0_paint
theorem dX0_mark_0 : decode cX0_mark 0 = .ok (.aload_n 0, 1) := by decide +kernel
theorem dX0_mark_1 : decode cX0_mark 1 = .ok (.iload_n 1, 1) := by decide +kernel
theorem dX0_mark_2 : decode cX0_mark 2 = .ok (.invokevirtual 67, 3) := by decide +kernel
theorem dX0_mark_5 : decode cX0_mark 5 = .ok (.iload_n 2, 1) := by decide +kernel
theorem dX0_mark_6 : decode cX0_mark 6 = .ok (.iload_n 3, 1) := by decide +kernel
theorem dX0_mark_7 : decode cX0_mark 7 = .ok (.invokestatic 70, 3) := by decide +kernel
theorem dX0_mark_10 : decode cX0_mark 10 = .ok (.iload 4, 2) := by decide +kernel
theorem dX0_mark_12 : decode cX0_mark 12 = .ok (.iconst 1, 1) := by decide +kernel
theorem dX0_mark_13 : decode cX0_mark 13 = .ok (.if_icmp .lt 27, 3) := by decide +kernel
theorem dX0_mark_16 : decode cX0_mark 16 = .ok (.iload 4, 2) := by decide +kernel
theorem dX0_mark_18 : decode cX0_mark 18 = .ok (.bipush 12, 2) := by decide +kernel
theorem dX0_mark_20 : decode cX0_mark 20 = .ok (.iload_n 2, 1) := by decide +kernel
theorem dX0_mark_21 : decode cX0_mark 21 = .ok (.isub, 1) := by decide +kernel
theorem dX0_mark_22 : decode cX0_mark 22 = .ok (.if_icmp .gt 18, 3) := by decide +kernel
theorem dX0_mark_25 : decode cX0_mark 25 = .ok (.iload 5, 2) := by decide +kernel
theorem dX0_mark_27 : decode cX0_mark 27 = .ok (.iconst 1, 1) := by decide +kernel
theorem dX0_mark_28 : decode cX0_mark 28 = .ok (.if_icmp .lt 12, 3) := by decide +kernel
theorem dX0_mark_31 : decode cX0_mark 31 = .ok (.iload 5, 2) := by decide +kernel
theorem dX0_mark_33 : decode cX0_mark 33 = .ok (.bipush 8, 2) := by decide +kernel
theorem dX0_mark_35 : decode cX0_mark 35 = .ok (.iload_n 3, 1) := by decide +kernel
theorem dX0_mark_36 : decode cX0_mark 36 = .ok (.isub, 1) := by decide +kernel
theorem dX0_mark_37 : decode cX0_mark 37 = .ok (.if_icmp .le 13, 3) := by decide +kernel
theorem dX0_mark_40 : decode cX0_mark 40 = .ok (.new 74, 3) := by decide +kernel
theorem dX0_mark_43 : decode cX0_mark 43 = .ok (.dup, 1) := by decide +kernel
theorem dX0_mark_44 : decode cX0_mark 44 = .ok (.ldc 76, 2) := by decide +kernel
theorem dX0_mark_46 : decode cX0_mark 46 = .ok (.invokespecial 78, 3) := by decide +kernel
theorem dX0_mark_49 : decode cX0_mark 49 = .ok (.athrow, 1) := by decide +kernel
theorem dX0_mark_50 : decode cX0_mark 50 = .ok (.iload 6, 2) := by decide +kernel
theorem dX0_mark_52 : decode cX0_mark 52 = .ok (.ifCond .lt 9, 3) := by decide +kernel
theorem dX0_mark_55 : decode cX0_mark 55 = .ok (.iload 6, 2) := by decide +kernel
theorem dX0_mark_57 : decode cX0_mark 57 = .ok (.iconst 2, 1) := by decide +kernel
theorem dX0_mark_58 : decode cX0_mark 58 = .ok (.if_icmp .le 13, 3) := by decide +kernel
theorem dX0_mark_61 : decode cX0_mark 61 = .ok (.new 74, 3) := by decide +kernel
theorem dX0_mark_64 : decode cX0_mark 64 = .ok (.dup, 1) := by decide +kernel
theorem dX0_mark_65 : decode cX0_mark 65 = .ok (.ldc 79, 2) := by decide +kernel
theorem dX0_mark_67 : decode cX0_mark 67 = .ok (.invokespecial 78, 3) := by decide +kernel
theorem dX0_mark_70 : decode cX0_mark 70 = .ok (.athrow, 1) := by decide +kernel
theorem dX0_mark_71 : decode cX0_mark 71 = .ok (.aload_n 0, 1) := by decide +kernel
theorem dX0_mark_72 : decode cX0_mark 72 = .ok (.getfield 18, 3) := by decide +kernel
theorem dX0_mark_75 : decode cX0_mark 75 = .ok (.iload_n 1, 1) := by decide +kernel
theorem dX0_mark_76 : decode cX0_mark 76 = .ok (.aaload, 1) := by decide +kernel
theorem dX0_mark_77 : decode cX0_mark 77 = .ok (.astore 7, 2) := by decide +kernel
theorem dX0_mark_79 : decode cX0_mark 79 = .ok (.aload 7, 2) := by decide +kernel
theorem dX0_mark_81 : decode cX0_mark 81 = .ok (.iload_n 2, 1) := by decide +kernel
theorem dX0_mark_82 : decode cX0_mark 82 = .ok (.iload_n 3, 1) := by decide +kernel
theorem dX0_mark_83 : decode cX0_mark 83 = .ok (.iload 4, 2) := by decide +kernel
theorem dX0_mark_85 : decode cX0_mark 85 = .ok (.iload 5, 2) := by decide +kernel
theorem dX0_mark_87 : decode cX0_mark 87 = .ok (.iconst 3, 1) := by decide +kernel
theorem dX0_mark_88 : decode cX0_mark 88 = .ok (.invokestatic 81, 3) := by decide +kernel
theorem dX0_mark_91 : decode cX0_mark 91 = .ok (.ifCond .le 13, 3) := by decide +kernel
theorem dX0_mark_94 : decode cX0_mark 94 = .ok (.new 60, 3) := by decide +kernel
theorem dX0_mark_97 : decode cX0_mark 97 = .ok (.dup, 1) := by decide +kernel
theorem dX0_mark_98 : decode cX0_mark 98 = .ok (.ldc 85, 2) := by decide +kernel
theorem dX0_mark_100 : decode cX0_mark 100 = .ok (.invokespecial 64, 3) := by decide +kernel
theorem dX0_mark_103 : decode cX0_mark 103 = .ok (.athrow, 1) := by decide +kernel
theorem dX0_mark_104 : decode cX0_mark 104 = .ok (.aload 7, 2) := by decide +kernel
theorem dX0_mark_106 : decode cX0_mark 106 = .ok (.iload_n 2, 1) := by decide +kernel
theorem dX0_mark_107 : decode cX0_mark 107 = .ok (.iload_n 3, 1) := by decide +kernel
theorem dX0_mark_108 : decode cX0_mark 108 = .ok (.iload 4, 2) := by decide +kernel
theorem dX0_mark_110 : decode cX0_mark 110 = .ok (.iload 5, 2) := by decide +kernel
theorem dX0_mark_112 : decode cX0_mark 112 = .ok (.iload 6, 2) := by decide +kernel
theorem dX0_mark_114 : decode cX0_mark 114 = .ok (.invokestatic 81, 3) := by decide +kernel
theorem dX0_mark_117 : decode cX0_mark 117 = .ok (.istore 8, 2) := by decide +kernel
theorem dX0_mark_119 : decode cX0_mark 119 = .ok (.aload 7, 2) := by decide +kernel
theorem dX0_mark_121 : decode cX0_mark 121 = .ok (.iload_n 2, 1) := by decide +kernel
theorem dX0_mark_122 : decode cX0_mark 122 = .ok (.iload_n 3, 1) := by decide +kernel
theorem dX0_mark_123 : decode cX0_mark 123 = .ok (.iload 4, 2) := by decide +kernel
theorem dX0_mark_125 : decode cX0_mark 125 = .ok (.iload 5, 2) := by decide +kernel
theorem dX0_mark_127 : decode cX0_mark 127 = .ok (.iload 6, 2) := by decide +kernel
theorem dX0_mark_129 : decode cX0_mark 129 = .ok (.invokestatic 87, 3) := by decide +kernel
theorem dX0_mark_132 : decode cX0_mark 132 = .ok (.iload 4, 2) := by decide +kernel
theorem dX0_mark_134 : decode cX0_mark 134 = .ok (.iload 5, 2) := by decide +kernel
theorem dX0_mark_136 : decode cX0_mark 136 = .ok (.imul, 1) := by decide +kernel
theorem dX0_mark_137 : decode cX0_mark 137 = .ok (.iload 8, 2) := by decide +kernel
theorem dX0_mark_139 : decode cX0_mark 139 = .ok (.isub, 1) := by decide +kernel
theorem dX0_mark_140 : decode cX0_mark 140 = .ok (.ireturn, 1) := by decide +kernel
set_option maxRecDepth 20000 in
theorem ggX0_cell_X0_needSkin : GoodIn wsX0_cell wsX0_needSkin := goodIn_ca (goodIn_r _ [6, 7, 8, 9, 13, 14, 15, 16, 17, 18, 19, 20, 21, 22, 23, 24, 25, 26, 27, 28] (by decide +kernel) (by decide +kernel)) (goodIn_sub (fun _ h => List.mem_cons_of_mem _ (List.mem_append_right _ h)) (by decide +kernel))
set_option maxRecDepth 20000 in
theorem gX0_cell_X0_needSkin : GoodIn wsX0_cell (wsV RX0 67 RX0 yX0_needSkin wsX0_needSkin) := goodIn_app (goodIn_of _ (by decide +kernel)) ggX0_cell_X0_needSkin
set_option maxRecDepth 20000 in
theorem ggX0_cell_X0_needCell : GoodIn wsX0_cell wsX0_needCell := goodIn_ca (goodIn_r _ [12, 7, 8] (by decide +kernel) (by decide +kernel)) (goodIn_sub (fun _ h => List.mem_cons_of_mem _ (List.mem_append_right _ h)) (by decide +kernel))
set_option maxRecDepth 20000 in
theorem gX0_cell_X0_needCell : GoodIn wsX0_cell (va_wsS RX0 70 yX0_needCell wsX0_needCell) := goodIn_app (goodIn_of _ (by decide +kernel)) ggX0_cell_X0_needCell
theorem dX0_cell_0 : decode cX0_cell 0 = .ok (.aload_n 0, 1) := by decide +kernel
theorem dX0_cell_1 : decode cX0_cell 1 = .ok (.iload_n 1, 1) := by decide +kernel
theorem dX0_cell_2 : decode cX0_cell 2 = .ok (.invokevirtual 67, 3) := by decide +kernel
theorem dX0_cell_5 : decode cX0_cell 5 = .ok (.iload_n 2, 1) := by decide +kernel
theorem dX0_cell_6 : decode cX0_cell 6 = .ok (.iload_n 3, 1) := by decide +kernel
theorem dX0_cell_7 : decode cX0_cell 7 = .ok (.invokestatic 70, 3) := by decide +kernel
theorem dX0_cell_10 : decode cX0_cell 10 = .ok (.aload_n 0, 1) := by decide +kernel
theorem dX0_cell_11 : decode cX0_cell 11 = .ok (.getfield 18, 3) := by decide +kernel
theorem dX0_cell_14 : decode cX0_cell 14 = .ok (.iload_n 1, 1) := by decide +kernel
theorem dX0_cell_15 : decode cX0_cell 15 = .ok (.aaload, 1) := by decide +kernel
theorem dX0_cell_16 : decode cX0_cell 16 = .ok (.bipush 12, 2) := by decide +kernel
theorem dX0_cell_18 : decode cX0_cell 18 = .ok (.iload_n 3, 1) := by decide +kernel
theorem dX0_cell_19 : decode cX0_cell 19 = .ok (.imul, 1) := by decide +kernel
theorem dX0_cell_20 : decode cX0_cell 20 = .ok (.iload_n 2, 1) := by decide +kernel
theorem dX0_cell_21 : decode cX0_cell 21 = .ok (.iadd, 1) := by decide +kernel
theorem dX0_cell_22 : decode cX0_cell 22 = .ok (.iaload, 1) := by decide +kernel
theorem dX0_cell_23 : decode cX0_cell 23 = .ok (.ireturn, 1) := by decide +kernel
set_option maxRecDepth 20000 in
theorem ggX0_skin_X0_needSkin : GoodIn wsX0_skin wsX0_needSkin := goodIn_ca (goodIn_r _ [5, 6, 7, 8, 26, 27, 28, 29, 30, 31, 32, 33, 34, 35, 36, 37, 38, 39, 40, 41] (by decide +kernel) (by decide +kernel)) (goodIn_sub (fun _ h => List.mem_cons_of_mem _ (List.mem_append_right _ h)) (by decide +kernel))
set_option maxRecDepth 20000 in
theorem gX0_skin_X0_needSkin : GoodIn wsX0_skin (wsV RX0 67 RX0 yX0_needSkin wsX0_needSkin) := goodIn_app (goodIn_of _ (by decide +kernel)) ggX0_skin_X0_needSkin
set_option maxRecDepth 20000 in
theorem ggX0_skin_X0_needWhat : GoodIn wsX0_skin wsX0_needWhat := goodIn_ca (goodIn_r _ [11, 6, 7] (by decide +kernel) (by decide +kernel)) (goodIn_sub (fun _ h => List.mem_cons_of_mem _ (List.mem_append_right _ h)) (by decide +kernel))
set_option maxRecDepth 20000 in
theorem gX0_skin_X0_needWhat : GoodIn wsX0_skin (va_wsS RX0 91 yX0_needWhat wsX0_needWhat) := goodIn_app (goodIn_of _ (by decide +kernel)) ggX0_skin_X0_needWhat
set_option maxRecDepth 20000 in
theorem ggX0_skin_X0_tellSkin : GoodIn wsX0_skin wsX0_tellSkin := goodIn_r _ [15, 16, 17, 18, 19, 20, 4, 21, 22, 23, 24, 25, 26, 27, 28, 29, 30, 31, 32, 33, 34, 35, 36, 37, 38, 39, 40, 41] (by decide +kernel) (by decide +kernel)
set_option maxRecDepth 20000 in
theorem gX0_skin_X0_tellSkin : GoodIn wsX0_skin (wsV RX0 94 RX0 yX0_tellSkin wsX0_tellSkin) := goodIn_app (goodIn_of _ (by decide +kernel)) ggX0_skin_X0_tellSkin
theorem dX0_skin_0 : decode cX0_skin 0 = .ok (.aload_n 0, 1) := by decide +kernel
theorem dX0_skin_1 : decode cX0_skin 1 = .ok (.iload_n 1, 1) := by decide +kernel
theorem dX0_skin_2 : decode cX0_skin 2 = .ok (.invokevirtual 67, 3) := by decide +kernel
theorem dX0_skin_5 : decode cX0_skin 5 = .ok (.iload_n 2, 1) := by decide +kernel
theorem dX0_skin_6 : decode cX0_skin 6 = .ok (.bipush 6, 2) := by decide +kernel
theorem dX0_skin_8 : decode cX0_skin 8 = .ok (.invokestatic 91, 3) := by decide +kernel
theorem dX0_skin_11 : decode cX0_skin 11 = .ok (.aload_n 0, 1) := by decide +kernel
theorem dX0_skin_12 : decode cX0_skin 12 = .ok (.iload_n 1, 1) := by decide +kernel
theorem dX0_skin_13 : decode cX0_skin 13 = .ok (.iload_n 2, 1) := by decide +kernel
theorem dX0_skin_14 : decode cX0_skin 14 = .ok (.invokevirtual 94, 3) := by decide +kernel
theorem dX0_skin_17 : decode cX0_skin 17 = .ok (.ireturn, 1) := by decide +kernel
set_option maxRecDepth 20000 in
theorem ggX0_cut_X0_needSkin : GoodIn wsX0_cut wsX0_needSkin := goodIn_ca (goodIn_r _ [14, 15, 16, 17, 44, 45, 46, 47, 48, 49, 50, 51, 52, 53, 54, 55, 56, 57, 58, 59] (by decide +kernel) (by decide +kernel)) (goodIn_sub (fun _ h => List.mem_cons_of_mem _ (List.mem_append_left _ (List.mem_append_right _ h))) (by decide +kernel))
set_option maxRecDepth 20000 in
theorem gX0_cut_X0_needSkin : GoodIn wsX0_cut (wsV RX0 67 RX0 yX0_needSkin wsX0_needSkin) := goodIn_app (goodIn_of _ (by decide +kernel)) ggX0_cut_X0_needSkin
set_option maxRecDepth 20000 in
theorem ggX0_cut_X0_needCell : GoodIn wsX0_cut wsX0_needCell := goodIn_ca (goodIn_r _ [20, 15, 16] (by decide +kernel) (by decide +kernel)) (goodIn_sub (fun _ h => List.mem_cons_of_mem _ (List.mem_append_left _ (List.mem_append_right _ h))) (by decide +kernel))
set_option maxRecDepth 20000 in
theorem gX0_cut_X0_needCell : GoodIn wsX0_cut (va_wsS RX0 70 yX0_needCell wsX0_needCell) := goodIn_app (goodIn_of _ (by decide +kernel)) ggX0_cut_X0_needCell
set_option maxRecDepth 20000 in
theorem ggX0_cut_X0_needKind : GoodIn wsX0_cut wsX0_needKind := goodIn_ca (goodIn_r _ [23, 24, 25] (by decide +kernel) (by decide +kernel)) (goodIn_sub (fun _ h => List.mem_cons_of_mem _ (List.mem_append_right _ h)) (by decide +kernel))
set_option maxRecDepth 20000 in
theorem gX0_cut_X0_needKind : GoodIn wsX0_cut (va_wsS RX0 98 yX0_needKind wsX0_needKind) := goodIn_app (goodIn_of _ (by decide +kernel)) ggX0_cut_X0_needKind
set_option maxRecDepth 20000 in
theorem ggX0_cut_X0_fits : GoodIn wsX0_cut wsX0_fits := goodIn_r _ [28, 29, 30, 31, 13, 32, 33, 34, 35, 36, 37, 38, 39, 40] (by decide +kernel) (by decide +kernel)
set_option maxRecDepth 20000 in
theorem gX0_cut_X0_fits : GoodIn wsX0_cut (va_wsS RX0 101 yX0_fits wsX0_fits) := goodIn_app (goodIn_of _ (by decide +kernel)) ggX0_cut_X0_fits
set_option maxRecDepth 20000 in
theorem ggX0_cut_X0_wideOf : GoodIn wsX0_cut wsX0_wideOf := goodIn_r _ [32, 33, 34] (by decide +kernel) (by decide +kernel)
set_option maxRecDepth 20000 in
theorem gX0_cut_X0_wideOf : GoodIn wsX0_cut (va_wsS RX0 112 yX0_wideOf wsX0_wideOf) := goodIn_app (goodIn_of _ (by decide +kernel)) ggX0_cut_X0_wideOf
set_option maxRecDepth 20000 in
theorem ggX0_cut_X0_highOf : GoodIn wsX0_cut wsX0_highOf := goodIn_r _ [37, 34, 33] (by decide +kernel) (by decide +kernel)
set_option maxRecDepth 20000 in
theorem gX0_cut_X0_highOf : GoodIn wsX0_cut (va_wsS RX0 116 yX0_highOf wsX0_highOf) := goodIn_app (goodIn_of _ (by decide +kernel)) ggX0_cut_X0_highOf
set_option maxRecDepth 20000 in
theorem ggX0_cut_X0_tally : GoodIn wsX0_cut wsX0_tally := goodIn_r _ [40] (by decide +kernel) (by decide +kernel)
set_option maxRecDepth 20000 in
theorem gX0_cut_X0_tally : GoodIn wsX0_cut (va_wsS RX0 81 yX0_tally wsX0_tally) := goodIn_app (goodIn_of _ (by decide +kernel)) ggX0_cut_X0_tally
set_option maxRecDepth 20000 in
theorem ggX0_cut_X0_paint : GoodIn wsX0_cut wsX0_paint := goodIn_r _ [43] (by decide +kernel) (by decide +kernel)
set_option maxRecDepth 20000 in
theorem gX0_cut_X0_paint : GoodIn wsX0_cut (va_wsS RX0 87 yX0_paint wsX0_paint) := goodIn_app (goodIn_of _ (by decide +kernel)) ggX0_cut_X0_paint
theorem dX0_cut_0 : decode cX0_cut 0 = .ok (.aload_n 0, 1) := by decide +kernel
theorem dX0_cut_1 : decode cX0_cut 1 = .ok (.iload_n 1, 1) := by decide +kernel
theorem dX0_cut_2 : decode cX0_cut 2 = .ok (.invokevirtual 67, 3) := by decide +kernel
theorem dX0_cut_5 : decode cX0_cut 5 = .ok (.iload 4, 2) := by decide +kernel
theorem dX0_cut_7 : decode cX0_cut 7 = .ok (.iload 5, 2) := by decide +kernel
theorem dX0_cut_9 : decode cX0_cut 9 = .ok (.invokestatic 70, 3) := by decide +kernel
theorem dX0_cut_12 : decode cX0_cut 12 = .ok (.iload_n 2, 1) := by decide +kernel
theorem dX0_cut_13 : decode cX0_cut 13 = .ok (.invokestatic 98, 3) := by decide +kernel
theorem dX0_cut_16 : decode cX0_cut 16 = .ok (.aload_n 0, 1) := by decide +kernel
theorem dX0_cut_17 : decode cX0_cut 17 = .ok (.getfield 18, 3) := by decide +kernel
theorem dX0_cut_20 : decode cX0_cut 20 = .ok (.iload_n 1, 1) := by decide +kernel
theorem dX0_cut_21 : decode cX0_cut 21 = .ok (.aaload, 1) := by decide +kernel
theorem dX0_cut_22 : decode cX0_cut 22 = .ok (.astore 6, 2) := by decide +kernel
theorem dX0_cut_24 : decode cX0_cut 24 = .ok (.aload 6, 2) := by decide +kernel
theorem dX0_cut_26 : decode cX0_cut 26 = .ok (.iload_n 2, 1) := by decide +kernel
theorem dX0_cut_27 : decode cX0_cut 27 = .ok (.iload_n 3, 1) := by decide +kernel
theorem dX0_cut_28 : decode cX0_cut 28 = .ok (.iload 4, 2) := by decide +kernel
theorem dX0_cut_30 : decode cX0_cut 30 = .ok (.iload 5, 2) := by decide +kernel
theorem dX0_cut_32 : decode cX0_cut 32 = .ok (.invokestatic 101, 3) := by decide +kernel
theorem dX0_cut_35 : decode cX0_cut 35 = .ok (.ifCond .ne 13, 3) := by decide +kernel
theorem dX0_cut_38 : decode cX0_cut 38 = .ok (.new 60, 3) := by decide +kernel
theorem dX0_cut_41 : decode cX0_cut 41 = .ok (.dup, 1) := by decide +kernel
theorem dX0_cut_42 : decode cX0_cut 42 = .ok (.ldc 105, 2) := by decide +kernel
theorem dX0_cut_44 : decode cX0_cut 44 = .ok (.invokespecial 64, 3) := by decide +kernel
theorem dX0_cut_47 : decode cX0_cut 47 = .ok (.athrow, 1) := by decide +kernel
theorem dX0_cut_48 : decode cX0_cut 48 = .ok (.aload_n 0, 1) := by decide +kernel
theorem dX0_cut_49 : decode cX0_cut 49 = .ok (.getfield 107, 3) := by decide +kernel
theorem dX0_cut_52 : decode cX0_cut 52 = .ok (.sipush 150, 3) := by decide +kernel
theorem dX0_cut_55 : decode cX0_cut 55 = .ok (.if_icmp .lt 13, 3) := by decide +kernel
theorem dX0_cut_58 : decode cX0_cut 58 = .ok (.new 60, 3) := by decide +kernel
theorem dX0_cut_61 : decode cX0_cut 61 = .ok (.dup, 1) := by decide +kernel
theorem dX0_cut_62 : decode cX0_cut 62 = .ok (.ldc 110, 2) := by decide +kernel
theorem dX0_cut_64 : decode cX0_cut 64 = .ok (.invokespecial 64, 3) := by decide +kernel
theorem dX0_cut_67 : decode cX0_cut 67 = .ok (.athrow, 1) := by decide +kernel
theorem dX0_cut_68 : decode cX0_cut 68 = .ok (.iload_n 2, 1) := by decide +kernel
theorem dX0_cut_69 : decode cX0_cut 69 = .ok (.iload_n 3, 1) := by decide +kernel
theorem dX0_cut_70 : decode cX0_cut 70 = .ok (.invokestatic 112, 3) := by decide +kernel
theorem dX0_cut_73 : decode cX0_cut 73 = .ok (.istore 7, 2) := by decide +kernel
theorem dX0_cut_75 : decode cX0_cut 75 = .ok (.iload_n 2, 1) := by decide +kernel
theorem dX0_cut_76 : decode cX0_cut 76 = .ok (.iload_n 3, 1) := by decide +kernel
theorem dX0_cut_77 : decode cX0_cut 77 = .ok (.invokestatic 116, 3) := by decide +kernel
theorem dX0_cut_80 : decode cX0_cut 80 = .ok (.istore 8, 2) := by decide +kernel
theorem dX0_cut_82 : decode cX0_cut 82 = .ok (.aload_n 0, 1) := by decide +kernel
theorem dX0_cut_83 : decode cX0_cut 83 = .ok (.getfield 21, 3) := by decide +kernel
theorem dX0_cut_86 : decode cX0_cut 86 = .ok (.aload_n 0, 1) := by decide +kernel
theorem dX0_cut_87 : decode cX0_cut 87 = .ok (.getfield 107, 3) := by decide +kernel
theorem dX0_cut_90 : decode cX0_cut 90 = .ok (.iload_n 1, 1) := by decide +kernel
theorem dX0_cut_91 : decode cX0_cut 91 = .ok (.iastore, 1) := by decide +kernel
theorem dX0_cut_92 : decode cX0_cut 92 = .ok (.aload_n 0, 1) := by decide +kernel
theorem dX0_cut_93 : decode cX0_cut 93 = .ok (.getfield 24, 3) := by decide +kernel
theorem dX0_cut_96 : decode cX0_cut 96 = .ok (.aload_n 0, 1) := by decide +kernel
theorem dX0_cut_97 : decode cX0_cut 97 = .ok (.getfield 107, 3) := by decide +kernel
theorem dX0_cut_100 : decode cX0_cut 100 = .ok (.iload_n 2, 1) := by decide +kernel
theorem dX0_cut_101 : decode cX0_cut 101 = .ok (.iastore, 1) := by decide +kernel
theorem dX0_cut_102 : decode cX0_cut 102 = .ok (.aload_n 0, 1) := by decide +kernel
theorem dX0_cut_103 : decode cX0_cut 103 = .ok (.getfield 27, 3) := by decide +kernel
theorem dX0_cut_106 : decode cX0_cut 106 = .ok (.aload_n 0, 1) := by decide +kernel
theorem dX0_cut_107 : decode cX0_cut 107 = .ok (.getfield 107, 3) := by decide +kernel
theorem dX0_cut_110 : decode cX0_cut 110 = .ok (.iconst (-1), 1) := by decide +kernel
theorem dX0_cut_111 : decode cX0_cut 111 = .ok (.iastore, 1) := by decide +kernel
theorem dX0_cut_112 : decode cX0_cut 112 = .ok (.aload_n 0, 1) := by decide +kernel
theorem dX0_cut_113 : decode cX0_cut 113 = .ok (.getfield 30, 3) := by decide +kernel
theorem dX0_cut_116 : decode cX0_cut 116 = .ok (.aload_n 0, 1) := by decide +kernel
theorem dX0_cut_117 : decode cX0_cut 117 = .ok (.getfield 107, 3) := by decide +kernel
theorem dX0_cut_120 : decode cX0_cut 120 = .ok (.aload 6, 2) := by decide +kernel
theorem dX0_cut_122 : decode cX0_cut 122 = .ok (.iload 4, 2) := by decide +kernel
theorem dX0_cut_124 : decode cX0_cut 124 = .ok (.iload 5, 2) := by decide +kernel
theorem dX0_cut_126 : decode cX0_cut 126 = .ok (.iload 7, 2) := by decide +kernel
theorem dX0_cut_128 : decode cX0_cut 128 = .ok (.iload 8, 2) := by decide +kernel
theorem dX0_cut_130 : decode cX0_cut 130 = .ok (.iconst 1, 1) := by decide +kernel
theorem dX0_cut_131 : decode cX0_cut 131 = .ok (.invokestatic 81, 3) := by decide +kernel
theorem dX0_cut_134 : decode cX0_cut 134 = .ok (.iastore, 1) := by decide +kernel
theorem dX0_cut_135 : decode cX0_cut 135 = .ok (.aload 6, 2) := by decide +kernel
theorem dX0_cut_137 : decode cX0_cut 137 = .ok (.iload 4, 2) := by decide +kernel
theorem dX0_cut_139 : decode cX0_cut 139 = .ok (.iload 5, 2) := by decide +kernel
theorem dX0_cut_141 : decode cX0_cut 141 = .ok (.iload 7, 2) := by decide +kernel
theorem dX0_cut_143 : decode cX0_cut 143 = .ok (.iload 8, 2) := by decide +kernel
theorem dX0_cut_145 : decode cX0_cut 145 = .ok (.iconst 3, 1) := by decide +kernel
theorem dX0_cut_146 : decode cX0_cut 146 = .ok (.invokestatic 87, 3) := by decide +kernel
theorem dX0_cut_149 : decode cX0_cut 149 = .ok (.aload_n 0, 1) := by decide +kernel
theorem dX0_cut_150 : decode cX0_cut 150 = .ok (.getfield 13, 3) := by decide +kernel
theorem dX0_cut_153 : decode cX0_cut 153 = .ok (.iload_n 1, 1) := by decide +kernel
theorem dX0_cut_154 : decode cX0_cut 154 = .ok (.dup2, 1) := by decide +kernel
theorem dX0_cut_155 : decode cX0_cut 155 = .ok (.iaload, 1) := by decide +kernel
theorem dX0_cut_156 : decode cX0_cut 156 = .ok (.iconst 1, 1) := by decide +kernel
theorem dX0_cut_157 : decode cX0_cut 157 = .ok (.iadd, 1) := by decide +kernel
theorem dX0_cut_158 : decode cX0_cut 158 = .ok (.iastore, 1) := by decide +kernel
theorem dX0_cut_159 : decode cX0_cut 159 = .ok (.aload_n 0, 1) := by decide +kernel
theorem dX0_cut_160 : decode cX0_cut 160 = .ok (.dup, 1) := by decide +kernel
theorem dX0_cut_161 : decode cX0_cut 161 = .ok (.getfield 107, 3) := by decide +kernel
theorem dX0_cut_164 : decode cX0_cut 164 = .ok (.iconst 1, 1) := by decide +kernel
theorem dX0_cut_165 : decode cX0_cut 165 = .ok (.iadd, 1) := by decide +kernel
theorem dX0_cut_166 : decode cX0_cut 166 = .ok (.putfield 107, 3) := by decide +kernel
theorem dX0_cut_169 : decode cX0_cut 169 = .ok (.aload_n 0, 1) := by decide +kernel
theorem dX0_cut_170 : decode cX0_cut 170 = .ok (.getfield 107, 3) := by decide +kernel
theorem dX0_cut_173 : decode cX0_cut 173 = .ok (.iconst 1, 1) := by decide +kernel
theorem dX0_cut_174 : decode cX0_cut 174 = .ok (.isub, 1) := by decide +kernel
theorem dX0_cut_175 : decode cX0_cut 175 = .ok (.ireturn, 1) := by decide +kernel
set_option maxRecDepth 20000 in
theorem ggX0_place_X0_needSkin : GoodIn wsX0_place wsX0_needSkin := goodIn_ca (goodIn_r _ [6, 7, 8, 9, 33, 34, 35, 36, 37, 38, 39, 40, 41, 42, 43, 44, 45, 46, 47, 48] (by decide +kernel) (by decide +kernel)) (goodIn_sub (fun _ h => List.mem_cons_of_mem _ (List.mem_append_left _ (List.mem_append_right _ h))) (by decide +kernel))
set_option maxRecDepth 20000 in
theorem gX0_place_X0_needSkin : GoodIn wsX0_place (wsV RX0 67 RX0 yX0_needSkin wsX0_needSkin) := goodIn_app (goodIn_of _ (by decide +kernel)) ggX0_place_X0_needSkin
set_option maxRecDepth 20000 in
theorem ggX0_place_X0_needKind : GoodIn wsX0_place wsX0_needKind := goodIn_ca (goodIn_r _ [12, 13, 14] (by decide +kernel) (by decide +kernel)) (goodIn_sub (fun _ h => List.mem_cons_of_mem _ (List.mem_append_right _ h)) (by decide +kernel))
set_option maxRecDepth 20000 in
theorem gX0_place_X0_needKind : GoodIn wsX0_place (va_wsS RX0 98 yX0_needKind wsX0_needKind) := goodIn_app (goodIn_of _ (by decide +kernel)) ggX0_place_X0_needKind
set_option maxRecDepth 20000 in
theorem ggX0_place_X0_firstFit : GoodIn wsX0_place wsX0_firstFit := goodIn_r _ [17, 18, 19, 5, 20, 21, 22, 23, 24, 25, 26, 27, 28, 29, 30, 31, 32] (by decide +kernel) (by decide +kernel)
set_option maxRecDepth 20000 in
theorem gX0_place_X0_firstFit : GoodIn wsX0_place (va_wsS RX0 119 yX0_firstFit wsX0_firstFit) := goodIn_app (goodIn_of _ (by decide +kernel)) ggX0_place_X0_firstFit
theorem dX0_place_0 : decode cX0_place 0 = .ok (.aload_n 0, 1) := by decide +kernel
theorem dX0_place_1 : decode cX0_place 1 = .ok (.iload_n 1, 1) := by decide +kernel
theorem dX0_place_2 : decode cX0_place 2 = .ok (.invokevirtual 67, 3) := by decide +kernel
theorem dX0_place_5 : decode cX0_place 5 = .ok (.iload_n 2, 1) := by decide +kernel
theorem dX0_place_6 : decode cX0_place 6 = .ok (.invokestatic 98, 3) := by decide +kernel
theorem dX0_place_9 : decode cX0_place 9 = .ok (.aload_n 0, 1) := by decide +kernel
theorem dX0_place_10 : decode cX0_place 10 = .ok (.getfield 18, 3) := by decide +kernel
theorem dX0_place_13 : decode cX0_place 13 = .ok (.iload_n 1, 1) := by decide +kernel
theorem dX0_place_14 : decode cX0_place 14 = .ok (.aaload, 1) := by decide +kernel
theorem dX0_place_15 : decode cX0_place 15 = .ok (.iload_n 2, 1) := by decide +kernel
theorem dX0_place_16 : decode cX0_place 16 = .ok (.iload_n 3, 1) := by decide +kernel
theorem dX0_place_17 : decode cX0_place 17 = .ok (.iconst 0, 1) := by decide +kernel
theorem dX0_place_18 : decode cX0_place 18 = .ok (.invokestatic 119, 3) := by decide +kernel
theorem dX0_place_21 : decode cX0_place 21 = .ok (.ireturn, 1) := by decide +kernel
set_option maxRecDepth 20000 in
theorem ggX0_piece_X0_needWhat : GoodIn wsX0_piece wsX0_needWhat := goodIn_ca (goodIn_r _ [7, 1, 2] (by decide +kernel) (by decide +kernel)) (goodIn_sub (fun _ h => List.mem_cons_of_mem _ (List.mem_append_right _ h)) (by decide +kernel))
set_option maxRecDepth 20000 in
theorem gX0_piece_X0_needWhat : GoodIn wsX0_piece (va_wsS RX0 91 yX0_needWhat wsX0_needWhat) := goodIn_app (goodIn_of _ (by decide +kernel)) ggX0_piece_X0_needWhat
set_option maxRecDepth 20000 in
theorem ggX0_piece_X0_tellPiece : GoodIn wsX0_piece wsX0_tellPiece := goodIn_r _ [11, 12, 13, 14, 15, 16, 17, 18, 19, 20, 21, 22, 23, 24, 25, 26, 27, 28, 29, 30, 31] (by decide +kernel) (by decide +kernel)
set_option maxRecDepth 20000 in
theorem gX0_piece_X0_tellPiece : GoodIn wsX0_piece (wsV RX0 128 RX0 yX0_tellPiece wsX0_tellPiece) := goodIn_app (goodIn_of _ (by decide +kernel)) ggX0_piece_X0_tellPiece
theorem dX0_piece_0 : decode cX0_piece 0 = .ok (.iload_n 1, 1) := by decide +kernel
theorem dX0_piece_1 : decode cX0_piece 1 = .ok (.ifCond .lt 11, 3) := by decide +kernel
theorem dX0_piece_4 : decode cX0_piece 4 = .ok (.iload_n 1, 1) := by decide +kernel
theorem dX0_piece_5 : decode cX0_piece 5 = .ok (.aload_n 0, 1) := by decide +kernel
theorem dX0_piece_6 : decode cX0_piece 6 = .ok (.getfield 107, 3) := by decide +kernel
theorem dX0_piece_9 : decode cX0_piece 9 = .ok (.if_icmp .lt 13, 3) := by decide +kernel
theorem dX0_piece_12 : decode cX0_piece 12 = .ok (.new 123, 3) := by decide +kernel
theorem dX0_piece_15 : decode cX0_piece 15 = .ok (.dup, 1) := by decide +kernel
theorem dX0_piece_16 : decode cX0_piece 16 = .ok (.ldc 125, 2) := by decide +kernel
theorem dX0_piece_18 : decode cX0_piece 18 = .ok (.invokespecial 127, 3) := by decide +kernel
theorem dX0_piece_21 : decode cX0_piece 21 = .ok (.athrow, 1) := by decide +kernel
theorem dX0_piece_22 : decode cX0_piece 22 = .ok (.iload_n 2, 1) := by decide +kernel
theorem dX0_piece_23 : decode cX0_piece 23 = .ok (.iconst 4, 1) := by decide +kernel
theorem dX0_piece_24 : decode cX0_piece 24 = .ok (.invokestatic 91, 3) := by decide +kernel
theorem dX0_piece_27 : decode cX0_piece 27 = .ok (.aload_n 0, 1) := by decide +kernel
theorem dX0_piece_28 : decode cX0_piece 28 = .ok (.iload_n 1, 1) := by decide +kernel
theorem dX0_piece_29 : decode cX0_piece 29 = .ok (.iload_n 2, 1) := by decide +kernel
theorem dX0_piece_30 : decode cX0_piece 30 = .ok (.invokevirtual 128, 3) := by decide +kernel
theorem dX0_piece_33 : decode cX0_piece 33 = .ok (.ireturn, 1) := by decide +kernel
set_option maxRecDepth 20000 in
theorem ggX0_sew_X0_needColour : GoodIn wsX0_sew wsX0_needColour := goodIn_ca (goodIn_r _ [7, 8, 9] (by decide +kernel) (by decide +kernel)) (goodIn_sub (fun _ h => List.mem_cons_of_mem _ (List.mem_append_right _ h)) (by decide +kernel))
set_option maxRecDepth 20000 in
theorem gX0_sew_X0_needColour : GoodIn wsX0_sew (va_wsS RX0 52 yX0_needColour wsX0_needColour) := goodIn_app (goodIn_of _ (by decide +kernel)) ggX0_sew_X0_needColour
set_option maxRecDepth 20000 in
theorem ggX0_sew_X0_lacking : GoodIn wsX0_sew wsX0_lacking := goodIn_r _ [13, 14, 15, 16, 17, 18, 19, 20, 21, 6, 22, 23, 24, 25, 26, 27, 28, 29, 30, 31, 32, 33, 34, 35, 36, 37, 38, 39, 40, 61, 62, 63, 64, 65, 66, 67, 68, 69, 70, 71, 72, 73, 74, 75, 76] (by decide +kernel) (by decide +kernel)
set_option maxRecDepth 20000 in
theorem gX0_sew_X0_lacking : GoodIn wsX0_sew (wsV RX0 131 RX0 yX0_lacking wsX0_lacking) := goodIn_app (goodIn_of _ (by decide +kernel)) ggX0_sew_X0_lacking
set_option maxRecDepth 20000 in
theorem ggX0_sew_X0_enterPair : GoodIn wsX0_sew wsX0_enterPair := goodIn_r _ [44, 45, 3, 46, 14, 29, 32, 30, 47, 48, 49, 50, 51, 52, 6, 53, 23, 24, 25, 26, 27, 28, 31, 37, 38, 39, 40, 54, 55, 56, 57, 58, 59, 60, 61, 62, 63, 64, 65, 66, 67, 68, 69, 70, 71, 72, 73, 74, 75, 76] (by decide +kernel) (by decide +kernel)
set_option maxRecDepth 20000 in
theorem gX0_sew_X0_enterPair : GoodIn wsX0_sew (wsV RX0 141 RX0 yX0_enterPair wsX0_enterPair) := goodIn_app (goodIn_of _ (by decide +kernel)) ggX0_sew_X0_enterPair
theorem dX0_sew_0 : decode cX0_sew 0 = .ok (.iload_n 1, 1) := by decide +kernel
theorem dX0_sew_1 : decode cX0_sew 1 = .ok (.invokestatic 52, 3) := by decide +kernel
theorem dX0_sew_4 : decode cX0_sew 4 = .ok (.iconst 0, 1) := by decide +kernel
theorem dX0_sew_5 : decode cX0_sew 5 = .ok (.istore_n 2, 1) := by decide +kernel
theorem dX0_sew_6 : decode cX0_sew 6 = .ok (.iload_n 2, 1) := by decide +kernel
theorem dX0_sew_7 : decode cX0_sew 7 = .ok (.iconst 4, 1) := by decide +kernel
theorem dX0_sew_8 : decode cX0_sew 8 = .ok (.if_icmp .ge 28, 3) := by decide +kernel
theorem dX0_sew_11 : decode cX0_sew 11 = .ok (.aload_n 0, 1) := by decide +kernel
theorem dX0_sew_12 : decode cX0_sew 12 = .ok (.iload_n 1, 1) := by decide +kernel
theorem dX0_sew_13 : decode cX0_sew 13 = .ok (.iload_n 2, 1) := by decide +kernel
theorem dX0_sew_14 : decode cX0_sew 14 = .ok (.invokevirtual 131, 3) := by decide +kernel
theorem dX0_sew_17 : decode cX0_sew 17 = .ok (.ifCond .le 13, 3) := by decide +kernel
theorem dX0_sew_20 : decode cX0_sew 20 = .ok (.new 60, 3) := by decide +kernel
theorem dX0_sew_23 : decode cX0_sew 23 = .ok (.dup, 1) := by decide +kernel
theorem dX0_sew_24 : decode cX0_sew 24 = .ok (.ldc 134, 2) := by decide +kernel
theorem dX0_sew_26 : decode cX0_sew 26 = .ok (.invokespecial 64, 3) := by decide +kernel
theorem dX0_sew_29 : decode cX0_sew 29 = .ok (.athrow, 1) := by decide +kernel
theorem dX0_sew_30 : decode cX0_sew 30 = .ok (.iinc 2 1, 3) := by decide +kernel
theorem dX0_sew_33 : decode cX0_sew 33 = .ok (.goto (-27), 3) := by decide +kernel
theorem dX0_sew_36 : decode cX0_sew 36 = .ok (.aload_n 0, 1) := by decide +kernel
theorem dX0_sew_37 : decode cX0_sew 37 = .ok (.getfield 136, 3) := by decide +kernel
theorem dX0_sew_40 : decode cX0_sew 40 = .ok (.bipush 20, 2) := by decide +kernel
theorem dX0_sew_42 : decode cX0_sew 42 = .ok (.if_icmp .lt 13, 3) := by decide +kernel
theorem dX0_sew_45 : decode cX0_sew 45 = .ok (.new 60, 3) := by decide +kernel
theorem dX0_sew_48 : decode cX0_sew 48 = .ok (.dup, 1) := by decide +kernel
theorem dX0_sew_49 : decode cX0_sew 49 = .ok (.ldc 139, 2) := by decide +kernel
theorem dX0_sew_51 : decode cX0_sew 51 = .ok (.invokespecial 64, 3) := by decide +kernel
theorem dX0_sew_54 : decode cX0_sew 54 = .ok (.athrow, 1) := by decide +kernel
theorem dX0_sew_55 : decode cX0_sew 55 = .ok (.aload_n 0, 1) := by decide +kernel
theorem dX0_sew_56 : decode cX0_sew 56 = .ok (.iload_n 1, 1) := by decide +kernel
theorem dX0_sew_57 : decode cX0_sew 57 = .ok (.invokevirtual 141, 3) := by decide +kernel
theorem dX0_sew_60 : decode cX0_sew 60 = .ok (.aload_n 0, 1) := by decide +kernel
theorem dX0_sew_61 : decode cX0_sew 61 = .ok (.getfield 136, 3) := by decide +kernel
theorem dX0_sew_64 : decode cX0_sew 64 = .ok (.iconst 1, 1) := by decide +kernel
theorem dX0_sew_65 : decode cX0_sew 65 = .ok (.isub, 1) := by decide +kernel
theorem dX0_sew_66 : decode cX0_sew 66 = .ok (.ireturn, 1) := by decide +kernel
set_option maxRecDepth 20000 in
theorem ggX0_rip_X0_needPair : GoodIn wsX0_rip wsX0_needPair := goodIn_ca (goodIn_r _ [11, 12, 13, 14, 15, 16, 17, 18, 19, 20, 21, 22, 23, 24, 25, 26, 27, 28, 29, 30] (by decide +kernel) (by decide +kernel)) (goodIn_sub (fun _ h => List.mem_cons_of_mem _ (List.mem_append_right _ h)) (by decide +kernel))
set_option maxRecDepth 20000 in
theorem gX0_rip_X0_needPair : GoodIn wsX0_rip (wsV RX0 144 RX0 yX0_needPair wsX0_needPair) := goodIn_app (goodIn_of _ (by decide +kernel)) ggX0_rip_X0_needPair
theorem dX0_rip_0 : decode cX0_rip 0 = .ok (.aload_n 0, 1) := by decide +kernel
theorem dX0_rip_1 : decode cX0_rip 1 = .ok (.iload_n 1, 1) := by decide +kernel
theorem dX0_rip_2 : decode cX0_rip 2 = .ok (.invokevirtual 144, 3) := by decide +kernel
theorem dX0_rip_5 : decode cX0_rip 5 = .ok (.aload_n 0, 1) := by decide +kernel
theorem dX0_rip_6 : decode cX0_rip 6 = .ok (.getfield 45, 3) := by decide +kernel
theorem dX0_rip_9 : decode cX0_rip 9 = .ok (.iload_n 1, 1) := by decide +kernel
theorem dX0_rip_10 : decode cX0_rip 10 = .ok (.baload, 1) := by decide +kernel
theorem dX0_rip_11 : decode cX0_rip 11 = .ok (.ifCond .eq 13, 3) := by decide +kernel
theorem dX0_rip_14 : decode cX0_rip 14 = .ok (.new 60, 3) := by decide +kernel
theorem dX0_rip_17 : decode cX0_rip 17 = .ok (.dup, 1) := by decide +kernel
theorem dX0_rip_18 : decode cX0_rip 18 = .ok (.ldc 147, 2) := by decide +kernel
theorem dX0_rip_20 : decode cX0_rip 20 = .ok (.invokespecial 64, 3) := by decide +kernel
theorem dX0_rip_23 : decode cX0_rip 23 = .ok (.athrow, 1) := by decide +kernel
theorem dX0_rip_24 : decode cX0_rip 24 = .ok (.aload_n 0, 1) := by decide +kernel
theorem dX0_rip_25 : decode cX0_rip 25 = .ok (.getfield 45, 3) := by decide +kernel
theorem dX0_rip_28 : decode cX0_rip 28 = .ok (.iload_n 1, 1) := by decide +kernel
theorem dX0_rip_29 : decode cX0_rip 29 = .ok (.iconst 1, 1) := by decide +kernel
theorem dX0_rip_30 : decode cX0_rip 30 = .ok (.bastore, 1) := by decide +kernel
theorem dX0_rip_31 : decode cX0_rip 31 = .ok (.iconst 0, 1) := by decide +kernel
theorem dX0_rip_32 : decode cX0_rip 32 = .ok (.istore_n 2, 1) := by decide +kernel
theorem dX0_rip_33 : decode cX0_rip 33 = .ok (.iconst 0, 1) := by decide +kernel
theorem dX0_rip_34 : decode cX0_rip 34 = .ok (.istore_n 3, 1) := by decide +kernel
theorem dX0_rip_35 : decode cX0_rip 35 = .ok (.iload_n 3, 1) := by decide +kernel
theorem dX0_rip_36 : decode cX0_rip 36 = .ok (.aload_n 0, 1) := by decide +kernel
theorem dX0_rip_37 : decode cX0_rip 37 = .ok (.getfield 107, 3) := by decide +kernel
theorem dX0_rip_40 : decode cX0_rip 40 = .ok (.if_icmp .ge 66, 3) := by decide +kernel
theorem dX0_rip_43 : decode cX0_rip 43 = .ok (.aload_n 0, 1) := by decide +kernel
theorem dX0_rip_44 : decode cX0_rip 44 = .ok (.getfield 27, 3) := by decide +kernel
theorem dX0_rip_47 : decode cX0_rip 47 = .ok (.iload_n 3, 1) := by decide +kernel
theorem dX0_rip_48 : decode cX0_rip 48 = .ok (.iaload, 1) := by decide +kernel
theorem dX0_rip_49 : decode cX0_rip 49 = .ok (.iload_n 1, 1) := by decide +kernel
theorem dX0_rip_50 : decode cX0_rip 50 = .ok (.if_icmp .ne 50, 3) := by decide +kernel
theorem dX0_rip_53 : decode cX0_rip 53 = .ok (.aload_n 0, 1) := by decide +kernel
theorem dX0_rip_54 : decode cX0_rip 54 = .ok (.getfield 24, 3) := by decide +kernel
theorem dX0_rip_57 : decode cX0_rip 57 = .ok (.iload_n 3, 1) := by decide +kernel
theorem dX0_rip_58 : decode cX0_rip 58 = .ok (.iaload, 1) := by decide +kernel
theorem dX0_rip_59 : decode cX0_rip 59 = .ok (.iconst 2, 1) := by decide +kernel
theorem dX0_rip_60 : decode cX0_rip 60 = .ok (.if_icmp .ne 7, 3) := by decide +kernel
theorem dX0_rip_63 : decode cX0_rip 63 = .ok (.iconst 1, 1) := by decide +kernel
theorem dX0_rip_64 : decode cX0_rip 64 = .ok (.goto 4, 3) := by decide +kernel
theorem dX0_rip_67 : decode cX0_rip 67 = .ok (.iconst 0, 1) := by decide +kernel
theorem dX0_rip_68 : decode cX0_rip 68 = .ok (.istore 4, 2) := by decide +kernel
theorem dX0_rip_70 : decode cX0_rip 70 = .ok (.aload_n 0, 1) := by decide +kernel
theorem dX0_rip_71 : decode cX0_rip 71 = .ok (.getfield 27, 3) := by decide +kernel
theorem dX0_rip_74 : decode cX0_rip 74 = .ok (.iload_n 3, 1) := by decide +kernel
theorem dX0_rip_75 : decode cX0_rip 75 = .ok (.iload 4, 2) := by decide +kernel
theorem dX0_rip_77 : decode cX0_rip 77 = .ok (.ifCond .eq 8, 3) := by decide +kernel
theorem dX0_rip_80 : decode cX0_rip 80 = .ok (.bipush (-2), 2) := by decide +kernel
theorem dX0_rip_82 : decode cX0_rip 82 = .ok (.goto 4, 3) := by decide +kernel
theorem dX0_rip_85 : decode cX0_rip 85 = .ok (.iconst (-1), 1) := by decide +kernel
theorem dX0_rip_86 : decode cX0_rip 86 = .ok (.iastore, 1) := by decide +kernel
theorem dX0_rip_87 : decode cX0_rip 87 = .ok (.iload_n 2, 1) := by decide +kernel
theorem dX0_rip_88 : decode cX0_rip 88 = .ok (.iload 4, 2) := by decide +kernel
theorem dX0_rip_90 : decode cX0_rip 90 = .ok (.ifCond .eq 7, 3) := by decide +kernel
theorem dX0_rip_93 : decode cX0_rip 93 = .ok (.iconst 0, 1) := by decide +kernel
theorem dX0_rip_94 : decode cX0_rip 94 = .ok (.goto 4, 3) := by decide +kernel
theorem dX0_rip_97 : decode cX0_rip 97 = .ok (.iconst 1, 1) := by decide +kernel
theorem dX0_rip_98 : decode cX0_rip 98 = .ok (.iadd, 1) := by decide +kernel
theorem dX0_rip_99 : decode cX0_rip 99 = .ok (.istore_n 2, 1) := by decide +kernel
theorem dX0_rip_100 : decode cX0_rip 100 = .ok (.iinc 3 1, 3) := by decide +kernel
theorem dX0_rip_103 : decode cX0_rip 103 = .ok (.goto (-68), 3) := by decide +kernel
theorem dX0_rip_106 : decode cX0_rip 106 = .ok (.iload_n 2, 1) := by decide +kernel
theorem dX0_rip_107 : decode cX0_rip 107 = .ok (.ireturn, 1) := by decide +kernel
set_option maxRecDepth 20000 in
theorem ggX0_pair_X0_needPair : GoodIn wsX0_pair wsX0_needPair := goodIn_ca (goodIn_r _ [5, 6, 7, 8, 21, 22, 23, 24, 25, 26, 27, 28, 29, 30, 31, 32, 33, 34, 35, 36] (by decide +kernel) (by decide +kernel)) (goodIn_sub (fun _ h => List.mem_cons_of_mem _ (List.mem_append_right _ h)) (by decide +kernel))
set_option maxRecDepth 20000 in
theorem gX0_pair_X0_needPair : GoodIn wsX0_pair (wsV RX0 144 RX0 yX0_needPair wsX0_needPair) := goodIn_app (goodIn_of _ (by decide +kernel)) ggX0_pair_X0_needPair
set_option maxRecDepth 20000 in
theorem ggX0_pair_X0_needWhat : GoodIn wsX0_pair wsX0_needWhat := goodIn_ca (goodIn_r _ [11, 6, 7] (by decide +kernel) (by decide +kernel)) (goodIn_sub (fun _ h => List.mem_cons_of_mem _ (List.mem_append_right _ h)) (by decide +kernel))
set_option maxRecDepth 20000 in
theorem gX0_pair_X0_needWhat : GoodIn wsX0_pair (va_wsS RX0 91 yX0_needWhat wsX0_needWhat) := goodIn_app (goodIn_of _ (by decide +kernel)) ggX0_pair_X0_needWhat
set_option maxRecDepth 20000 in
theorem ggX0_pair_X0_tellPair : GoodIn wsX0_pair wsX0_tellPair := goodIn_r _ [15, 16, 17, 18, 19, 20, 21, 22, 23, 24, 25, 26, 27, 28, 29, 30, 31, 32, 33, 34, 35, 36] (by decide +kernel) (by decide +kernel)
set_option maxRecDepth 20000 in
theorem gX0_pair_X0_tellPair : GoodIn wsX0_pair (wsV RX0 149 RX0 yX0_tellPair wsX0_tellPair) := goodIn_app (goodIn_of _ (by decide +kernel)) ggX0_pair_X0_tellPair
theorem dX0_pair_0 : decode cX0_pair 0 = .ok (.aload_n 0, 1) := by decide +kernel
theorem dX0_pair_1 : decode cX0_pair 1 = .ok (.iload_n 1, 1) := by decide +kernel
theorem dX0_pair_2 : decode cX0_pair 2 = .ok (.invokevirtual 144, 3) := by decide +kernel
theorem dX0_pair_5 : decode cX0_pair 5 = .ok (.iload_n 2, 1) := by decide +kernel
theorem dX0_pair_6 : decode cX0_pair 6 = .ok (.iconst 5, 1) := by decide +kernel
theorem dX0_pair_7 : decode cX0_pair 7 = .ok (.invokestatic 91, 3) := by decide +kernel
theorem dX0_pair_10 : decode cX0_pair 10 = .ok (.aload_n 0, 1) := by decide +kernel
theorem dX0_pair_11 : decode cX0_pair 11 = .ok (.iload_n 1, 1) := by decide +kernel
theorem dX0_pair_12 : decode cX0_pair 12 = .ok (.iload_n 2, 1) := by decide +kernel
theorem dX0_pair_13 : decode cX0_pair 13 = .ok (.invokevirtual 149, 3) := by decide +kernel
theorem dX0_pair_16 : decode cX0_pair 16 = .ok (.ireturn, 1) := by decide +kernel
set_option maxRecDepth 20000 in
theorem ggX0_count_X0_needWhat : GoodIn wsX0_count wsX0_needWhat := goodIn_ca (goodIn_r _ [4, 5, 6] (by decide +kernel) (by decide +kernel)) (goodIn_sub (fun _ h => List.mem_cons_of_mem _ (List.mem_append_right _ h)) (by decide +kernel))
set_option maxRecDepth 20000 in
theorem gX0_count_X0_needWhat : GoodIn wsX0_count (va_wsS RX0 91 yX0_needWhat wsX0_needWhat) := goodIn_app (goodIn_of _ (by decide +kernel)) ggX0_count_X0_needWhat
set_option maxRecDepth 20000 in
theorem ggX0_count_X0_tellCount : GoodIn wsX0_count wsX0_tellCount := goodIn_r _ [10, 11, 12, 13, 14, 15, 16, 3, 17, 18, 19, 20, 21, 22, 23, 24, 25, 26, 27, 28, 29, 30, 31, 32, 33, 34, 35, 36, 37, 38, 39] (by decide +kernel) (by decide +kernel)
set_option maxRecDepth 20000 in
theorem gX0_count_X0_tellCount : GoodIn wsX0_count (wsV RX0 152 RX0 yX0_tellCount wsX0_tellCount) := goodIn_app (goodIn_of _ (by decide +kernel)) ggX0_count_X0_tellCount
theorem dX0_count_0 : decode cX0_count 0 = .ok (.iload_n 1, 1) := by decide +kernel
theorem dX0_count_1 : decode cX0_count 1 = .ok (.bipush 7, 2) := by decide +kernel
theorem dX0_count_3 : decode cX0_count 3 = .ok (.invokestatic 91, 3) := by decide +kernel
theorem dX0_count_6 : decode cX0_count 6 = .ok (.aload_n 0, 1) := by decide +kernel
theorem dX0_count_7 : decode cX0_count 7 = .ok (.iload_n 1, 1) := by decide +kernel
theorem dX0_count_8 : decode cX0_count 8 = .ok (.invokevirtual 152, 3) := by decide +kernel
theorem dX0_count_11 : decode cX0_count 11 = .ok (.ireturn, 1) := by decide +kernel
set_option maxRecDepth 20000 in
theorem ggX0_gives_X0_needSkin : GoodIn wsX0_gives wsX0_needSkin := goodIn_ca (goodIn_r _ [5, 6, 7, 8, 45, 46, 47, 48, 49, 50, 51, 52, 53, 54, 55, 56, 57, 58, 59, 60] (by decide +kernel) (by decide +kernel)) (goodIn_sub (fun _ h => List.mem_cons_of_mem _ (List.mem_append_left _ (List.mem_append_right _ h))) (by decide +kernel))
set_option maxRecDepth 20000 in
theorem gX0_gives_X0_needSkin : GoodIn wsX0_gives (wsV RX0 67 RX0 yX0_needSkin wsX0_needSkin) := goodIn_app (goodIn_of _ (by decide +kernel)) ggX0_gives_X0_needSkin
set_option maxRecDepth 20000 in
theorem ggX0_gives_X0_needKind : GoodIn wsX0_gives wsX0_needKind := goodIn_ca (goodIn_r _ [11, 12, 13] (by decide +kernel) (by decide +kernel)) (goodIn_sub (fun _ h => List.mem_cons_of_mem _ (List.mem_append_right _ h)) (by decide +kernel))
set_option maxRecDepth 20000 in
theorem gX0_gives_X0_needKind : GoodIn wsX0_gives (va_wsS RX0 98 yX0_needKind wsX0_needKind) := goodIn_app (goodIn_of _ (by decide +kernel)) ggX0_gives_X0_needKind
set_option maxRecDepth 20000 in
theorem ggX0_gives_X0_givenBy : GoodIn wsX0_gives wsX0_givenBy := goodIn_r _ [17, 18, 19, 20, 21, 22, 23, 24, 25, 4, 26, 27, 28, 29, 30, 31, 32, 33, 34, 35, 36, 37, 38, 39, 40, 41, 42, 43, 44, 45, 46, 47, 48, 49, 50, 51, 52, 53, 54, 55, 56, 57, 58, 59, 60] (by decide +kernel) (by decide +kernel)
set_option maxRecDepth 20000 in
theorem gX0_gives_X0_givenBy : GoodIn wsX0_gives (wsV RX0 156 RX0 yX0_givenBy wsX0_givenBy) := goodIn_app (goodIn_of _ (by decide +kernel)) ggX0_gives_X0_givenBy
theorem dX0_gives_0 : decode cX0_gives 0 = .ok (.aload_n 0, 1) := by decide +kernel
theorem dX0_gives_1 : decode cX0_gives 1 = .ok (.iload_n 1, 1) := by decide +kernel
theorem dX0_gives_2 : decode cX0_gives 2 = .ok (.invokevirtual 67, 3) := by decide +kernel
theorem dX0_gives_5 : decode cX0_gives 5 = .ok (.iload_n 2, 1) := by decide +kernel
theorem dX0_gives_6 : decode cX0_gives 6 = .ok (.invokestatic 98, 3) := by decide +kernel
theorem dX0_gives_9 : decode cX0_gives 9 = .ok (.aload_n 0, 1) := by decide +kernel
theorem dX0_gives_10 : decode cX0_gives 10 = .ok (.iload_n 1, 1) := by decide +kernel
theorem dX0_gives_11 : decode cX0_gives 11 = .ok (.iload_n 2, 1) := by decide +kernel
theorem dX0_gives_12 : decode cX0_gives 12 = .ok (.iload_n 3, 1) := by decide +kernel
theorem dX0_gives_13 : decode cX0_gives 13 = .ok (.invokevirtual 156, 3) := by decide +kernel
theorem dX0_gives_16 : decode cX0_gives 16 = .ok (.ireturn, 1) := by decide +kernel
set_option maxRecDepth 20000 in
theorem ggX0_best_X0_needKind : GoodIn wsX0_best wsX0_needKind := goodIn_ca (goodIn_r _ [5, 6, 7] (by decide +kernel) (by decide +kernel)) (goodIn_sub (fun _ h => List.mem_cons_of_mem _ (List.mem_append_right _ h)) (by decide +kernel))
set_option maxRecDepth 20000 in
theorem gX0_best_X0_needKind : GoodIn wsX0_best (va_wsS RX0 98 yX0_needKind wsX0_needKind) := goodIn_app (goodIn_of _ (by decide +kernel)) ggX0_best_X0_needKind
set_option maxRecDepth 20000 in
theorem ggX0_best_X0_givenBy : GoodIn wsX0_best wsX0_givenBy := goodIn_r _ [11, 12, 13, 14, 15, 16, 17, 18, 19, 4, 20, 21, 22, 23, 24, 25, 26, 27, 28, 29, 30, 31, 32, 33, 34, 35, 36, 37, 38, 39, 40, 41, 42, 43, 44, 45, 46, 47, 48, 49, 50, 51, 52, 53, 54] (by decide +kernel) (by decide +kernel)
set_option maxRecDepth 20000 in
theorem gX0_best_X0_givenBy : GoodIn wsX0_best (wsV RX0 156 RX0 yX0_givenBy wsX0_givenBy) := goodIn_app (goodIn_of _ (by decide +kernel)) ggX0_best_X0_givenBy
theorem dX0_best_0 : decode cX0_best 0 = .ok (.iload_n 1, 1) := by decide +kernel
theorem dX0_best_1 : decode cX0_best 1 = .ok (.invokestatic 98, 3) := by decide +kernel
theorem dX0_best_4 : decode cX0_best 4 = .ok (.iconst (-1), 1) := by decide +kernel
theorem dX0_best_5 : decode cX0_best 5 = .ok (.istore_n 3, 1) := by decide +kernel
theorem dX0_best_6 : decode cX0_best 6 = .ok (.iconst 0, 1) := by decide +kernel
theorem dX0_best_7 : decode cX0_best 7 = .ok (.istore 4, 2) := by decide +kernel
theorem dX0_best_9 : decode cX0_best 9 = .ok (.iconst 0, 1) := by decide +kernel
theorem dX0_best_10 : decode cX0_best 10 = .ok (.istore 5, 2) := by decide +kernel
theorem dX0_best_12 : decode cX0_best 12 = .ok (.iload 5, 2) := by decide +kernel
theorem dX0_best_14 : decode cX0_best 14 = .ok (.aload_n 0, 1) := by decide +kernel
theorem dX0_best_15 : decode cX0_best 15 = .ok (.getfield 56, 3) := by decide +kernel
theorem dX0_best_18 : decode cX0_best 18 = .ok (.if_icmp .ge 33, 3) := by decide +kernel
theorem dX0_best_21 : decode cX0_best 21 = .ok (.aload_n 0, 1) := by decide +kernel
theorem dX0_best_22 : decode cX0_best 22 = .ok (.iload 5, 2) := by decide +kernel
theorem dX0_best_24 : decode cX0_best 24 = .ok (.iload_n 1, 1) := by decide +kernel
theorem dX0_best_25 : decode cX0_best 25 = .ok (.iload_n 2, 1) := by decide +kernel
theorem dX0_best_26 : decode cX0_best 26 = .ok (.invokevirtual 156, 3) := by decide +kernel
theorem dX0_best_29 : decode cX0_best 29 = .ok (.istore 6, 2) := by decide +kernel
theorem dX0_best_31 : decode cX0_best 31 = .ok (.iload 6, 2) := by decide +kernel
theorem dX0_best_33 : decode cX0_best 33 = .ok (.iload 4, 2) := by decide +kernel
theorem dX0_best_35 : decode cX0_best 35 = .ok (.if_icmp .le 10, 3) := by decide +kernel
theorem dX0_best_38 : decode cX0_best 38 = .ok (.iload 6, 2) := by decide +kernel
theorem dX0_best_40 : decode cX0_best 40 = .ok (.istore 4, 2) := by decide +kernel
theorem dX0_best_42 : decode cX0_best 42 = .ok (.iload 5, 2) := by decide +kernel
theorem dX0_best_44 : decode cX0_best 44 = .ok (.istore_n 3, 1) := by decide +kernel
theorem dX0_best_45 : decode cX0_best 45 = .ok (.iinc 5 1, 3) := by decide +kernel
theorem dX0_best_48 : decode cX0_best 48 = .ok (.goto (-36), 3) := by decide +kernel
theorem dX0_best_51 : decode cX0_best 51 = .ok (.iload_n 3, 1) := by decide +kernel
theorem dX0_best_52 : decode cX0_best 52 = .ok (.ireturn, 1) := by decide +kernel
set_option maxRecDepth 20000 in
theorem ggX0_lacks_X0_needColour : GoodIn wsX0_lacks wsX0_needColour := goodIn_ca (goodIn_r _ [4, 5, 6] (by decide +kernel) (by decide +kernel)) (goodIn_sub (fun _ h => List.mem_cons_of_mem _ (List.mem_append_right _ h)) (by decide +kernel))
set_option maxRecDepth 20000 in
theorem gX0_lacks_X0_needColour : GoodIn wsX0_lacks (va_wsS RX0 52 yX0_needColour wsX0_needColour) := goodIn_app (goodIn_of _ (by decide +kernel)) ggX0_lacks_X0_needColour
set_option maxRecDepth 20000 in
theorem ggX0_lacks_X0_needKind : GoodIn wsX0_lacks wsX0_needKind := goodIn_ca (goodIn_r _ [9, 5, 6] (by decide +kernel) (by decide +kernel)) (goodIn_sub (fun _ h => List.mem_cons_of_mem _ (List.mem_append_right _ h)) (by decide +kernel))
set_option maxRecDepth 20000 in
theorem gX0_lacks_X0_needKind : GoodIn wsX0_lacks (va_wsS RX0 98 yX0_needKind wsX0_needKind) := goodIn_app (goodIn_of _ (by decide +kernel)) ggX0_lacks_X0_needKind
set_option maxRecDepth 20000 in
theorem ggX0_lacks_X0_lacking : GoodIn wsX0_lacks wsX0_lacking := goodIn_r _ [13, 14, 15, 16, 17, 18, 19, 20, 21, 3, 22, 23, 24, 25, 26, 27, 28, 29, 30, 31, 32, 33, 34, 35, 36, 37, 38, 39, 40, 41, 42, 43, 44, 45, 46, 47, 48, 49, 50, 51, 52, 53, 54, 55, 56] (by decide +kernel) (by decide +kernel)
set_option maxRecDepth 20000 in
theorem gX0_lacks_X0_lacking : GoodIn wsX0_lacks (wsV RX0 131 RX0 yX0_lacking wsX0_lacking) := goodIn_app (goodIn_of _ (by decide +kernel)) ggX0_lacks_X0_lacking
theorem dX0_lacks_0 : decode cX0_lacks 0 = .ok (.iload_n 1, 1) := by decide +kernel
theorem dX0_lacks_1 : decode cX0_lacks 1 = .ok (.invokestatic 52, 3) := by decide +kernel
theorem dX0_lacks_4 : decode cX0_lacks 4 = .ok (.iload_n 2, 1) := by decide +kernel
theorem dX0_lacks_5 : decode cX0_lacks 5 = .ok (.invokestatic 98, 3) := by decide +kernel
theorem dX0_lacks_8 : decode cX0_lacks 8 = .ok (.aload_n 0, 1) := by decide +kernel
theorem dX0_lacks_9 : decode cX0_lacks 9 = .ok (.iload_n 1, 1) := by decide +kernel
theorem dX0_lacks_10 : decode cX0_lacks 10 = .ok (.iload_n 2, 1) := by decide +kernel
theorem dX0_lacks_11 : decode cX0_lacks 11 = .ok (.invokevirtual 131, 3) := by decide +kernel
theorem dX0_lacks_14 : decode cX0_lacks 14 = .ok (.ireturn, 1) := by decide +kernel
set_option maxRecDepth 20000 in
theorem ggX0_pairs_X0_needColour : GoodIn wsX0_pairs wsX0_needColour := goodIn_ca (goodIn_r _ [8, 9, 10] (by decide +kernel) (by decide +kernel)) (goodIn_sub (fun _ h => List.mem_cons_of_mem _ (List.mem_append_right _ h)) (by decide +kernel))
set_option maxRecDepth 20000 in
theorem gX0_pairs_X0_needColour : GoodIn wsX0_pairs (va_wsS RX0 52 yX0_needColour wsX0_needColour) := goodIn_app (goodIn_of _ (by decide +kernel)) ggX0_pairs_X0_needColour
set_option maxRecDepth 20000 in
theorem ggX0_pairs_X0_trankPairs : GoodIn wsX0_pairs wsX0_trankPairs := goodIn_r _ [14, 15, 16, 17, 18, 19, 7, 20, 21, 22, 23, 24, 25, 26, 27, 28, 37, 38, 39, 40, 41, 42, 43, 44, 45, 46, 47, 48, 49, 50, 51, 52] (by decide +kernel) (by decide +kernel)
set_option maxRecDepth 20000 in
theorem gX0_pairs_X0_trankPairs : GoodIn wsX0_pairs (wsV RX0 160 RX0 yX0_trankPairs wsX0_trankPairs) := goodIn_app (goodIn_of _ (by decide +kernel)) ggX0_pairs_X0_trankPairs
set_option maxRecDepth 20000 in
theorem ggX0_pairs_X0_freeOfColour : GoodIn wsX0_pairs wsX0_freeOfColour := goodIn_r _ [32, 21, 33, 34, 35, 7, 36, 22, 23, 16, 24, 37, 38, 39, 40, 41, 42, 43, 44, 45, 46, 47, 48, 49, 50, 51, 52] (by decide +kernel) (by decide +kernel)
set_option maxRecDepth 20000 in
theorem gX0_pairs_X0_freeOfColour : GoodIn wsX0_pairs (wsV RX0 163 RX0 yX0_freeOfColour wsX0_freeOfColour) := goodIn_app (goodIn_of _ (by decide +kernel)) ggX0_pairs_X0_freeOfColour
set_option maxRecDepth 20000 in
theorem ggX0_pairs_X0_pairsFrom : GoodIn wsX0_pairs wsX0_pairsFrom := goodIn_r _ [27, 28] (by decide +kernel) (by decide +kernel)
set_option maxRecDepth 20000 in
theorem gX0_pairs_X0_pairsFrom : GoodIn wsX0_pairs (va_wsS RX0 166 yX0_pairsFrom wsX0_pairsFrom) := goodIn_app (goodIn_of _ (by decide +kernel)) ggX0_pairs_X0_pairsFrom
theorem dX0_pairs_0 : decode cX0_pairs 0 = .ok (.iload_n 1, 1) := by decide +kernel
theorem dX0_pairs_1 : decode cX0_pairs 1 = .ok (.invokestatic 52, 3) := by decide +kernel
theorem dX0_pairs_4 : decode cX0_pairs 4 = .ok (.aload_n 0, 1) := by decide +kernel
theorem dX0_pairs_5 : decode cX0_pairs 5 = .ok (.iload_n 1, 1) := by decide +kernel
theorem dX0_pairs_6 : decode cX0_pairs 6 = .ok (.invokevirtual 160, 3) := by decide +kernel
theorem dX0_pairs_9 : decode cX0_pairs 9 = .ok (.istore_n 2, 1) := by decide +kernel
theorem dX0_pairs_10 : decode cX0_pairs 10 = .ok (.iconst 1, 1) := by decide +kernel
theorem dX0_pairs_11 : decode cX0_pairs 11 = .ok (.istore_n 3, 1) := by decide +kernel
theorem dX0_pairs_12 : decode cX0_pairs 12 = .ok (.iload_n 3, 1) := by decide +kernel
theorem dX0_pairs_13 : decode cX0_pairs 13 = .ok (.iconst 4, 1) := by decide +kernel
theorem dX0_pairs_14 : decode cX0_pairs 14 = .ok (.if_icmp .ge 24, 3) := by decide +kernel
theorem dX0_pairs_17 : decode cX0_pairs 17 = .ok (.iload_n 2, 1) := by decide +kernel
theorem dX0_pairs_18 : decode cX0_pairs 18 = .ok (.aload_n 0, 1) := by decide +kernel
theorem dX0_pairs_19 : decode cX0_pairs 19 = .ok (.iload_n 1, 1) := by decide +kernel
theorem dX0_pairs_20 : decode cX0_pairs 20 = .ok (.iload_n 3, 1) := by decide +kernel
theorem dX0_pairs_21 : decode cX0_pairs 21 = .ok (.invokevirtual 163, 3) := by decide +kernel
theorem dX0_pairs_24 : decode cX0_pairs 24 = .ok (.iload_n 3, 1) := by decide +kernel
theorem dX0_pairs_25 : decode cX0_pairs 25 = .ok (.invokestatic 166, 3) := by decide +kernel
theorem dX0_pairs_28 : decode cX0_pairs 28 = .ok (.invokestatic 169, 3) := by decide +kernel
theorem dX0_pairs_31 : decode cX0_pairs 31 = .ok (.istore_n 2, 1) := by decide +kernel
theorem dX0_pairs_32 : decode cX0_pairs 32 = .ok (.iinc 3 1, 3) := by decide +kernel
theorem dX0_pairs_35 : decode cX0_pairs 35 = .ok (.goto (-23), 3) := by decide +kernel
theorem dX0_pairs_38 : decode cX0_pairs 38 = .ok (.iload_n 2, 1) := by decide +kernel
theorem dX0_pairs_39 : decode cX0_pairs 39 = .ok (.ireturn, 1) := by decide +kernel
set_option maxRecDepth 20000 in
theorem ggX0_share_X0_tallySkin : GoodIn wsX0_share wsX0_tallySkin := goodIn_r _ [6, 7, 8, 9, 5, 10, 11, 12, 13, 14, 15, 16, 17, 18, 19, 20, 21, 22, 23, 24, 25, 26] (by decide +kernel) (by decide +kernel)
set_option maxRecDepth 20000 in
theorem gX0_share_X0_tallySkin : GoodIn wsX0_share (wsV RX0 174 RX0 yX0_tallySkin wsX0_tallySkin) := goodIn_app (goodIn_of _ (by decide +kernel)) ggX0_share_X0_tallySkin
theorem dX0_share_0 : decode cX0_share 0 = .ok (.iconst 0, 1) := by decide +kernel
theorem dX0_share_1 : decode cX0_share 1 = .ok (.istore_n 1, 1) := by decide +kernel
theorem dX0_share_2 : decode cX0_share 2 = .ok (.iconst 0, 1) := by decide +kernel
theorem dX0_share_3 : decode cX0_share 3 = .ok (.istore_n 2, 1) := by decide +kernel
theorem dX0_share_4 : decode cX0_share 4 = .ok (.iconst 0, 1) := by decide +kernel
theorem dX0_share_5 : decode cX0_share 5 = .ok (.istore_n 3, 1) := by decide +kernel
theorem dX0_share_6 : decode cX0_share 6 = .ok (.iload_n 3, 1) := by decide +kernel
theorem dX0_share_7 : decode cX0_share 7 = .ok (.aload_n 0, 1) := by decide +kernel
theorem dX0_share_8 : decode cX0_share 8 = .ok (.getfield 56, 3) := by decide +kernel
theorem dX0_share_11 : decode cX0_share 11 = .ok (.if_icmp .ge 30, 3) := by decide +kernel
theorem dX0_share_14 : decode cX0_share 14 = .ok (.iload_n 1, 1) := by decide +kernel
theorem dX0_share_15 : decode cX0_share 15 = .ok (.aload_n 0, 1) := by decide +kernel
theorem dX0_share_16 : decode cX0_share 16 = .ok (.iload_n 3, 1) := by decide +kernel
theorem dX0_share_17 : decode cX0_share 17 = .ok (.iconst 3, 1) := by decide +kernel
theorem dX0_share_18 : decode cX0_share 18 = .ok (.invokevirtual 174, 3) := by decide +kernel
theorem dX0_share_21 : decode cX0_share 21 = .ok (.iadd, 1) := by decide +kernel
theorem dX0_share_22 : decode cX0_share 22 = .ok (.istore_n 1, 1) := by decide +kernel
theorem dX0_share_23 : decode cX0_share 23 = .ok (.iload_n 2, 1) := by decide +kernel
theorem dX0_share_24 : decode cX0_share 24 = .ok (.bipush 96, 2) := by decide +kernel
theorem dX0_share_26 : decode cX0_share 26 = .ok (.aload_n 0, 1) := by decide +kernel
theorem dX0_share_27 : decode cX0_share 27 = .ok (.iload_n 3, 1) := by decide +kernel
theorem dX0_share_28 : decode cX0_share 28 = .ok (.iconst 2, 1) := by decide +kernel
theorem dX0_share_29 : decode cX0_share 29 = .ok (.invokevirtual 174, 3) := by decide +kernel
theorem dX0_share_32 : decode cX0_share 32 = .ok (.isub, 1) := by decide +kernel
theorem dX0_share_33 : decode cX0_share 33 = .ok (.iadd, 1) := by decide +kernel
theorem dX0_share_34 : decode cX0_share 34 = .ok (.istore_n 2, 1) := by decide +kernel
theorem dX0_share_35 : decode cX0_share 35 = .ok (.iinc 3 1, 3) := by decide +kernel
theorem dX0_share_38 : decode cX0_share 38 = .ok (.goto (-32), 3) := by decide +kernel
theorem dX0_share_41 : decode cX0_share 41 = .ok (.iload_n 2, 1) := by decide +kernel
theorem dX0_share_42 : decode cX0_share 42 = .ok (.ifCond .ne 5, 3) := by decide +kernel
theorem dX0_share_45 : decode cX0_share 45 = .ok (.dconst 0, 1) := by decide +kernel
theorem dX0_share_46 : decode cX0_share 46 = .ok (.dreturn, 1) := by decide +kernel
theorem dX0_share_47 : decode cX0_share 47 = .ok (.iload_n 1, 1) := by decide +kernel
theorem dX0_share_48 : decode cX0_share 48 = .ok (.i2d, 1) := by decide +kernel
theorem dX0_share_49 : decode cX0_share 49 = .ok (.iload_n 2, 1) := by decide +kernel
theorem dX0_share_50 : decode cX0_share 50 = .ok (.i2d, 1) := by decide +kernel
theorem dX0_share_51 : decode cX0_share 51 = .ok (.ddiv, 1) := by decide +kernel
theorem dX0_share_52 : decode cX0_share 52 = .ok (.dreturn, 1) := by decide +kernel
set_option maxRecDepth 20000 in
theorem ggX0_digest_X0_tellCount : GoodIn wsX0_digest wsX0_tellCount := goodIn_r _ [10, 3, 4, 5, 11, 12, 13, 9, 14, 15, 16, 17, 18, 19, 20, 54, 55, 56, 57, 58, 59, 60, 61, 62, 63, 64, 65, 66, 67, 68, 69] (by decide +kernel) (by decide +kernel)
set_option maxRecDepth 20000 in
theorem gX0_digest_X0_tellCount : GoodIn wsX0_digest (wsV RX0 152 RX0 yX0_tellCount wsX0_tellCount) := goodIn_app (goodIn_of _ (by decide +kernel)) ggX0_digest_X0_tellCount
set_option maxRecDepth 20000 in
theorem ggX0_digest_X0_digestSkin : GoodIn wsX0_digest wsX0_digestSkin := goodIn_r _ [24, 2, 25, 26, 27, 28, 9, 29, 30, 31, 32, 33, 34, 35, 36, 37, 38, 54, 55, 56, 57, 58, 59, 60, 61, 62, 63, 64, 65, 66, 67, 68, 69] (by decide +kernel) (by decide +kernel)
set_option maxRecDepth 20000 in
theorem gX0_digest_X0_digestSkin : GoodIn wsX0_digest (wsV RX0 181 RX0 yX0_digestSkin wsX0_digestSkin) := goodIn_app (goodIn_of _ (by decide +kernel)) ggX0_digest_X0_digestSkin
set_option maxRecDepth 20000 in
theorem ggX0_digest_X0_tellPiece : GoodIn wsX0_digest wsX0_tellPiece := goodIn_r _ [42, 43, 44, 15, 45, 54, 55, 56, 57, 58, 59, 60, 61, 62, 63, 64, 65, 66, 67, 68, 69] (by decide +kernel) (by decide +kernel)
set_option maxRecDepth 20000 in
theorem gX0_digest_X0_tellPiece : GoodIn wsX0_digest (wsV RX0 128 RX0 yX0_tellPiece wsX0_tellPiece) := goodIn_app (goodIn_of _ (by decide +kernel)) ggX0_digest_X0_tellPiece
set_option maxRecDepth 20000 in
theorem ggX0_digest_X0_tellPair : GoodIn wsX0_digest wsX0_tellPair := goodIn_r _ [49, 50, 51, 52, 53, 20, 54, 55, 56, 57, 58, 59, 60, 61, 62, 63, 64, 65, 66, 67, 68, 69] (by decide +kernel) (by decide +kernel)
set_option maxRecDepth 20000 in
theorem gX0_digest_X0_tellPair : GoodIn wsX0_digest (wsV RX0 149 RX0 yX0_tellPair wsX0_tellPair) := goodIn_app (goodIn_of _ (by decide +kernel)) ggX0_digest_X0_tellPair
theorem dX0_digest_0 : decode cX0_digest 0 = .ok (.ldc2_w 177, 3) := by decide +kernel
theorem dX0_digest_3 : decode cX0_digest 3 = .ok (.lstore_n 1, 1) := by decide +kernel
theorem dX0_digest_4 : decode cX0_digest 4 = .ok (.iconst 0, 1) := by decide +kernel
theorem dX0_digest_5 : decode cX0_digest 5 = .ok (.istore_n 3, 1) := by decide +kernel
theorem dX0_digest_6 : decode cX0_digest 6 = .ok (.iload_n 3, 1) := by decide +kernel
theorem dX0_digest_7 : decode cX0_digest 7 = .ok (.bipush 7, 2) := by decide +kernel
theorem dX0_digest_9 : decode cX0_digest 9 = .ok (.if_icmp .ge 22, 3) := by decide +kernel
theorem dX0_digest_12 : decode cX0_digest 12 = .ok (.lload_n 1, 1) := by decide +kernel
theorem dX0_digest_13 : decode cX0_digest 13 = .ok (.ldc2_w 179, 3) := by decide +kernel
theorem dX0_digest_16 : decode cX0_digest 16 = .ok (.lmul, 1) := by decide +kernel
theorem dX0_digest_17 : decode cX0_digest 17 = .ok (.aload_n 0, 1) := by decide +kernel
theorem dX0_digest_18 : decode cX0_digest 18 = .ok (.iload_n 3, 1) := by decide +kernel
theorem dX0_digest_19 : decode cX0_digest 19 = .ok (.invokevirtual 152, 3) := by decide +kernel
theorem dX0_digest_22 : decode cX0_digest 22 = .ok (.i2l, 1) := by decide +kernel
theorem dX0_digest_23 : decode cX0_digest 23 = .ok (.ladd, 1) := by decide +kernel
theorem dX0_digest_24 : decode cX0_digest 24 = .ok (.lstore_n 1, 1) := by decide +kernel
theorem dX0_digest_25 : decode cX0_digest 25 = .ok (.iinc 3 1, 3) := by decide +kernel
theorem dX0_digest_28 : decode cX0_digest 28 = .ok (.goto (-22), 3) := by decide +kernel
theorem dX0_digest_31 : decode cX0_digest 31 = .ok (.iconst 0, 1) := by decide +kernel
theorem dX0_digest_32 : decode cX0_digest 32 = .ok (.istore_n 3, 1) := by decide +kernel
theorem dX0_digest_33 : decode cX0_digest 33 = .ok (.iload_n 3, 1) := by decide +kernel
theorem dX0_digest_34 : decode cX0_digest 34 = .ok (.aload_n 0, 1) := by decide +kernel
theorem dX0_digest_35 : decode cX0_digest 35 = .ok (.getfield 56, 3) := by decide +kernel
theorem dX0_digest_38 : decode cX0_digest 38 = .ok (.if_icmp .ge 16, 3) := by decide +kernel
theorem dX0_digest_41 : decode cX0_digest 41 = .ok (.aload_n 0, 1) := by decide +kernel
theorem dX0_digest_42 : decode cX0_digest 42 = .ok (.lload_n 1, 1) := by decide +kernel
theorem dX0_digest_43 : decode cX0_digest 43 = .ok (.iload_n 3, 1) := by decide +kernel
theorem dX0_digest_44 : decode cX0_digest 44 = .ok (.invokevirtual 181, 3) := by decide +kernel
theorem dX0_digest_47 : decode cX0_digest 47 = .ok (.lstore_n 1, 1) := by decide +kernel
theorem dX0_digest_48 : decode cX0_digest 48 = .ok (.iinc 3 1, 3) := by decide +kernel
theorem dX0_digest_51 : decode cX0_digest 51 = .ok (.goto (-18), 3) := by decide +kernel
theorem dX0_digest_54 : decode cX0_digest 54 = .ok (.iconst 0, 1) := by decide +kernel
theorem dX0_digest_55 : decode cX0_digest 55 = .ok (.istore_n 3, 1) := by decide +kernel
theorem dX0_digest_56 : decode cX0_digest 56 = .ok (.iload_n 3, 1) := by decide +kernel
theorem dX0_digest_57 : decode cX0_digest 57 = .ok (.aload_n 0, 1) := by decide +kernel
theorem dX0_digest_58 : decode cX0_digest 58 = .ok (.getfield 107, 3) := by decide +kernel
theorem dX0_digest_61 : decode cX0_digest 61 = .ok (.if_icmp .ge 39, 3) := by decide +kernel
theorem dX0_digest_64 : decode cX0_digest 64 = .ok (.iconst 0, 1) := by decide +kernel
theorem dX0_digest_65 : decode cX0_digest 65 = .ok (.istore 4, 2) := by decide +kernel
theorem dX0_digest_67 : decode cX0_digest 67 = .ok (.iload 4, 2) := by decide +kernel
theorem dX0_digest_69 : decode cX0_digest 69 = .ok (.iconst 4, 1) := by decide +kernel
theorem dX0_digest_70 : decode cX0_digest 70 = .ok (.if_icmp .ge 24, 3) := by decide +kernel
theorem dX0_digest_73 : decode cX0_digest 73 = .ok (.lload_n 1, 1) := by decide +kernel
theorem dX0_digest_74 : decode cX0_digest 74 = .ok (.ldc2_w 179, 3) := by decide +kernel
theorem dX0_digest_77 : decode cX0_digest 77 = .ok (.lmul, 1) := by decide +kernel
theorem dX0_digest_78 : decode cX0_digest 78 = .ok (.aload_n 0, 1) := by decide +kernel
theorem dX0_digest_79 : decode cX0_digest 79 = .ok (.iload_n 3, 1) := by decide +kernel
theorem dX0_digest_80 : decode cX0_digest 80 = .ok (.iload 4, 2) := by decide +kernel
theorem dX0_digest_82 : decode cX0_digest 82 = .ok (.invokevirtual 128, 3) := by decide +kernel
theorem dX0_digest_85 : decode cX0_digest 85 = .ok (.i2l, 1) := by decide +kernel
theorem dX0_digest_86 : decode cX0_digest 86 = .ok (.ladd, 1) := by decide +kernel
theorem dX0_digest_87 : decode cX0_digest 87 = .ok (.lstore_n 1, 1) := by decide +kernel
theorem dX0_digest_88 : decode cX0_digest 88 = .ok (.iinc 4 1, 3) := by decide +kernel
theorem dX0_digest_91 : decode cX0_digest 91 = .ok (.goto (-24), 3) := by decide +kernel
theorem dX0_digest_94 : decode cX0_digest 94 = .ok (.iinc 3 1, 3) := by decide +kernel
theorem dX0_digest_97 : decode cX0_digest 97 = .ok (.goto (-41), 3) := by decide +kernel
theorem dX0_digest_100 : decode cX0_digest 100 = .ok (.iconst 0, 1) := by decide +kernel
theorem dX0_digest_101 : decode cX0_digest 101 = .ok (.istore_n 3, 1) := by decide +kernel
theorem dX0_digest_102 : decode cX0_digest 102 = .ok (.iload_n 3, 1) := by decide +kernel
theorem dX0_digest_103 : decode cX0_digest 103 = .ok (.aload_n 0, 1) := by decide +kernel
theorem dX0_digest_104 : decode cX0_digest 104 = .ok (.getfield 136, 3) := by decide +kernel
theorem dX0_digest_107 : decode cX0_digest 107 = .ok (.if_icmp .ge 39, 3) := by decide +kernel
theorem dX0_digest_110 : decode cX0_digest 110 = .ok (.iconst 0, 1) := by decide +kernel
theorem dX0_digest_111 : decode cX0_digest 111 = .ok (.istore 4, 2) := by decide +kernel
theorem dX0_digest_113 : decode cX0_digest 113 = .ok (.iload 4, 2) := by decide +kernel
theorem dX0_digest_115 : decode cX0_digest 115 = .ok (.iconst 5, 1) := by decide +kernel
theorem dX0_digest_116 : decode cX0_digest 116 = .ok (.if_icmp .ge 24, 3) := by decide +kernel
theorem dX0_digest_119 : decode cX0_digest 119 = .ok (.lload_n 1, 1) := by decide +kernel
theorem dX0_digest_120 : decode cX0_digest 120 = .ok (.ldc2_w 179, 3) := by decide +kernel
theorem dX0_digest_123 : decode cX0_digest 123 = .ok (.lmul, 1) := by decide +kernel
theorem dX0_digest_124 : decode cX0_digest 124 = .ok (.aload_n 0, 1) := by decide +kernel
theorem dX0_digest_125 : decode cX0_digest 125 = .ok (.iload_n 3, 1) := by decide +kernel
theorem dX0_digest_126 : decode cX0_digest 126 = .ok (.iload 4, 2) := by decide +kernel
theorem dX0_digest_128 : decode cX0_digest 128 = .ok (.invokevirtual 149, 3) := by decide +kernel
theorem dX0_digest_131 : decode cX0_digest 131 = .ok (.i2l, 1) := by decide +kernel
theorem dX0_digest_132 : decode cX0_digest 132 = .ok (.ladd, 1) := by decide +kernel
theorem dX0_digest_133 : decode cX0_digest 133 = .ok (.lstore_n 1, 1) := by decide +kernel
theorem dX0_digest_134 : decode cX0_digest 134 = .ok (.iinc 4 1, 3) := by decide +kernel
theorem dX0_digest_137 : decode cX0_digest 137 = .ok (.goto (-24), 3) := by decide +kernel
theorem dX0_digest_140 : decode cX0_digest 140 = .ok (.iinc 3 1, 3) := by decide +kernel
theorem dX0_digest_143 : decode cX0_digest 143 = .ok (.goto (-41), 3) := by decide +kernel
theorem dX0_digest_146 : decode cX0_digest 146 = .ok (.lload_n 1, 1) := by decide +kernel
theorem dX0_digest_147 : decode cX0_digest 147 = .ok (.lreturn, 1) := by decide +kernel
set_option maxRecDepth 20000 in
theorem ggX0_digestSkin_X0_tellSkin : GoodIn wsX0_digestSkin wsX0_tellSkin := goodIn_r _ [7, 8, 9, 10, 11, 12, 6, 13, 2, 14, 15, 16, 17, 18, 19, 20, 21, 22, 23, 24, 25, 26, 27, 28, 29, 30, 31, 32] (by decide +kernel) (by decide +kernel)
set_option maxRecDepth 20000 in
theorem gX0_digestSkin_X0_tellSkin : GoodIn wsX0_digestSkin (wsV RX0 94 RX0 yX0_tellSkin wsX0_tellSkin) := goodIn_app (goodIn_of _ (by decide +kernel)) ggX0_digestSkin_X0_tellSkin
theorem dX0_digestSkin_0 : decode cX0_digestSkin 0 = .ok (.lload_n 1, 1) := by decide +kernel
theorem dX0_digestSkin_1 : decode cX0_digestSkin 1 = .ok (.lstore 4, 2) := by decide +kernel
theorem dX0_digestSkin_3 : decode cX0_digestSkin 3 = .ok (.iconst 0, 1) := by decide +kernel
theorem dX0_digestSkin_4 : decode cX0_digestSkin 4 = .ok (.istore 6, 2) := by decide +kernel
theorem dX0_digestSkin_6 : decode cX0_digestSkin 6 = .ok (.iload 6, 2) := by decide +kernel
theorem dX0_digestSkin_8 : decode cX0_digestSkin 8 = .ok (.bipush 6, 2) := by decide +kernel
theorem dX0_digestSkin_10 : decode cX0_digestSkin 10 = .ok (.if_icmp .ge 26, 3) := by decide +kernel
theorem dX0_digestSkin_13 : decode cX0_digestSkin 13 = .ok (.lload 4, 2) := by decide +kernel
theorem dX0_digestSkin_15 : decode cX0_digestSkin 15 = .ok (.ldc2_w 179, 3) := by decide +kernel
theorem dX0_digestSkin_18 : decode cX0_digestSkin 18 = .ok (.lmul, 1) := by decide +kernel
theorem dX0_digestSkin_19 : decode cX0_digestSkin 19 = .ok (.aload_n 0, 1) := by decide +kernel
theorem dX0_digestSkin_20 : decode cX0_digestSkin 20 = .ok (.iload_n 3, 1) := by decide +kernel
theorem dX0_digestSkin_21 : decode cX0_digestSkin 21 = .ok (.iload 6, 2) := by decide +kernel
theorem dX0_digestSkin_23 : decode cX0_digestSkin 23 = .ok (.invokevirtual 94, 3) := by decide +kernel
theorem dX0_digestSkin_26 : decode cX0_digestSkin 26 = .ok (.i2l, 1) := by decide +kernel
theorem dX0_digestSkin_27 : decode cX0_digestSkin 27 = .ok (.ladd, 1) := by decide +kernel
theorem dX0_digestSkin_28 : decode cX0_digestSkin 28 = .ok (.lstore 4, 2) := by decide +kernel
theorem dX0_digestSkin_30 : decode cX0_digestSkin 30 = .ok (.iinc 6 1, 3) := by decide +kernel
theorem dX0_digestSkin_33 : decode cX0_digestSkin 33 = .ok (.goto (-27), 3) := by decide +kernel
theorem dX0_digestSkin_36 : decode cX0_digestSkin 36 = .ok (.iconst 0, 1) := by decide +kernel
theorem dX0_digestSkin_37 : decode cX0_digestSkin 37 = .ok (.istore 6, 2) := by decide +kernel
theorem dX0_digestSkin_39 : decode cX0_digestSkin 39 = .ok (.iload 6, 2) := by decide +kernel
theorem dX0_digestSkin_41 : decode cX0_digestSkin 41 = .ok (.bipush 96, 2) := by decide +kernel
theorem dX0_digestSkin_43 : decode cX0_digestSkin 43 = .ok (.if_icmp .ge 28, 3) := by decide +kernel
theorem dX0_digestSkin_46 : decode cX0_digestSkin 46 = .ok (.lload 4, 2) := by decide +kernel
theorem dX0_digestSkin_48 : decode cX0_digestSkin 48 = .ok (.ldc2_w 179, 3) := by decide +kernel
theorem dX0_digestSkin_51 : decode cX0_digestSkin 51 = .ok (.lmul, 1) := by decide +kernel
theorem dX0_digestSkin_52 : decode cX0_digestSkin 52 = .ok (.aload_n 0, 1) := by decide +kernel
theorem dX0_digestSkin_53 : decode cX0_digestSkin 53 = .ok (.getfield 18, 3) := by decide +kernel
theorem dX0_digestSkin_56 : decode cX0_digestSkin 56 = .ok (.iload_n 3, 1) := by decide +kernel
theorem dX0_digestSkin_57 : decode cX0_digestSkin 57 = .ok (.aaload, 1) := by decide +kernel
theorem dX0_digestSkin_58 : decode cX0_digestSkin 58 = .ok (.iload 6, 2) := by decide +kernel
theorem dX0_digestSkin_60 : decode cX0_digestSkin 60 = .ok (.iaload, 1) := by decide +kernel
theorem dX0_digestSkin_61 : decode cX0_digestSkin 61 = .ok (.i2l, 1) := by decide +kernel
theorem dX0_digestSkin_62 : decode cX0_digestSkin 62 = .ok (.ladd, 1) := by decide +kernel
theorem dX0_digestSkin_63 : decode cX0_digestSkin 63 = .ok (.lstore 4, 2) := by decide +kernel
theorem dX0_digestSkin_65 : decode cX0_digestSkin 65 = .ok (.iinc 6 1, 3) := by decide +kernel
theorem dX0_digestSkin_68 : decode cX0_digestSkin 68 = .ok (.goto (-29), 3) := by decide +kernel
theorem dX0_digestSkin_71 : decode cX0_digestSkin 71 = .ok (.lload 4, 2) := by decide +kernel
theorem dX0_digestSkin_73 : decode cX0_digestSkin 73 = .ok (.lreturn, 1) := by decide +kernel
theorem dX0_needSkin_0 : decode cX0_needSkin 0 = .ok (.iload_n 1, 1) := by decide +kernel
theorem dX0_needSkin_1 : decode cX0_needSkin 1 = .ok (.ifCond .lt 11, 3) := by decide +kernel
theorem dX0_needSkin_4 : decode cX0_needSkin 4 = .ok (.iload_n 1, 1) := by decide +kernel
theorem dX0_needSkin_5 : decode cX0_needSkin 5 = .ok (.aload_n 0, 1) := by decide +kernel
theorem dX0_needSkin_6 : decode cX0_needSkin 6 = .ok (.getfield 56, 3) := by decide +kernel
theorem dX0_needSkin_9 : decode cX0_needSkin 9 = .ok (.if_icmp .lt 13, 3) := by decide +kernel
theorem dX0_needSkin_12 : decode cX0_needSkin 12 = .ok (.new 123, 3) := by decide +kernel
theorem dX0_needSkin_15 : decode cX0_needSkin 15 = .ok (.dup, 1) := by decide +kernel
theorem dX0_needSkin_16 : decode cX0_needSkin 16 = .ok (.ldc 185, 2) := by decide +kernel
theorem dX0_needSkin_18 : decode cX0_needSkin 18 = .ok (.invokespecial 127, 3) := by decide +kernel
theorem dX0_needSkin_21 : decode cX0_needSkin 21 = .ok (.athrow, 1) := by decide +kernel
theorem dX0_needSkin_22 : decode cX0_needSkin 22 = .ok (.return_, 1) := by decide +kernel
theorem dX0_needPair_0 : decode cX0_needPair 0 = .ok (.iload_n 1, 1) := by decide +kernel
theorem dX0_needPair_1 : decode cX0_needPair 1 = .ok (.ifCond .lt 11, 3) := by decide +kernel
theorem dX0_needPair_4 : decode cX0_needPair 4 = .ok (.iload_n 1, 1) := by decide +kernel
theorem dX0_needPair_5 : decode cX0_needPair 5 = .ok (.aload_n 0, 1) := by decide +kernel
theorem dX0_needPair_6 : decode cX0_needPair 6 = .ok (.getfield 136, 3) := by decide +kernel
theorem dX0_needPair_9 : decode cX0_needPair 9 = .ok (.if_icmp .lt 13, 3) := by decide +kernel
theorem dX0_needPair_12 : decode cX0_needPair 12 = .ok (.new 123, 3) := by decide +kernel
theorem dX0_needPair_15 : decode cX0_needPair 15 = .ok (.dup, 1) := by decide +kernel
theorem dX0_needPair_16 : decode cX0_needPair 16 = .ok (.ldc 187, 2) := by decide +kernel
theorem dX0_needPair_18 : decode cX0_needPair 18 = .ok (.invokespecial 127, 3) := by decide +kernel
theorem dX0_needPair_21 : decode cX0_needPair 21 = .ok (.athrow, 1) := by decide +kernel
theorem dX0_needPair_22 : decode cX0_needPair 22 = .ok (.return_, 1) := by decide +kernel
theorem dX0_needCell_0 : decode cX0_needCell 0 = .ok (.iload_n 0, 1) := by decide +kernel
theorem dX0_needCell_1 : decode cX0_needCell 1 = .ok (.ifCond .lt 19, 3) := by decide +kernel
theorem dX0_needCell_4 : decode cX0_needCell 4 = .ok (.iload_n 0, 1) := by decide +kernel
theorem dX0_needCell_5 : decode cX0_needCell 5 = .ok (.bipush 12, 2) := by decide +kernel
theorem dX0_needCell_7 : decode cX0_needCell 7 = .ok (.if_icmp .ge 13, 3) := by decide +kernel
theorem dX0_needCell_10 : decode cX0_needCell 10 = .ok (.iload_n 1, 1) := by decide +kernel
theorem dX0_needCell_11 : decode cX0_needCell 11 = .ok (.ifCond .lt 9, 3) := by decide +kernel
theorem dX0_needCell_14 : decode cX0_needCell 14 = .ok (.iload_n 1, 1) := by decide +kernel
theorem dX0_needCell_15 : decode cX0_needCell 15 = .ok (.bipush 8, 2) := by decide +kernel
theorem dX0_needCell_17 : decode cX0_needCell 17 = .ok (.if_icmp .lt 13, 3) := by decide +kernel
theorem dX0_needCell_20 : decode cX0_needCell 20 = .ok (.new 123, 3) := by decide +kernel
theorem dX0_needCell_23 : decode cX0_needCell 23 = .ok (.dup, 1) := by decide +kernel
theorem dX0_needCell_24 : decode cX0_needCell 24 = .ok (.ldc 189, 2) := by decide +kernel
theorem dX0_needCell_26 : decode cX0_needCell 26 = .ok (.invokespecial 127, 3) := by decide +kernel
theorem dX0_needCell_29 : decode cX0_needCell 29 = .ok (.athrow, 1) := by decide +kernel
theorem dX0_needCell_30 : decode cX0_needCell 30 = .ok (.return_, 1) := by decide +kernel
theorem dX0_needWhat_0 : decode cX0_needWhat 0 = .ok (.iload_n 0, 1) := by decide +kernel
theorem dX0_needWhat_1 : decode cX0_needWhat 1 = .ok (.ifCond .lt 8, 3) := by decide +kernel
theorem dX0_needWhat_4 : decode cX0_needWhat 4 = .ok (.iload_n 0, 1) := by decide +kernel
theorem dX0_needWhat_5 : decode cX0_needWhat 5 = .ok (.iload_n 1, 1) := by decide +kernel
theorem dX0_needWhat_6 : decode cX0_needWhat 6 = .ok (.if_icmp .lt 13, 3) := by decide +kernel
theorem dX0_needWhat_9 : decode cX0_needWhat 9 = .ok (.new 123, 3) := by decide +kernel
theorem dX0_needWhat_12 : decode cX0_needWhat 12 = .ok (.dup, 1) := by decide +kernel
theorem dX0_needWhat_13 : decode cX0_needWhat 13 = .ok (.ldc 191, 2) := by decide +kernel
theorem dX0_needWhat_15 : decode cX0_needWhat 15 = .ok (.invokespecial 127, 3) := by decide +kernel
theorem dX0_needWhat_18 : decode cX0_needWhat 18 = .ok (.athrow, 1) := by decide +kernel
theorem dX0_needWhat_19 : decode cX0_needWhat 19 = .ok (.return_, 1) := by decide +kernel
theorem dX0_needColour_0 : decode cX0_needColour 0 = .ok (.iload_n 0, 1) := by decide +kernel
theorem dX0_needColour_1 : decode cX0_needColour 1 = .ok (.ifCond .lt 9, 3) := by decide +kernel
theorem dX0_needColour_4 : decode cX0_needColour 4 = .ok (.iload_n 0, 1) := by decide +kernel
theorem dX0_needColour_5 : decode cX0_needColour 5 = .ok (.bipush 6, 2) := by decide +kernel
theorem dX0_needColour_7 : decode cX0_needColour 7 = .ok (.if_icmp .lt 13, 3) := by decide +kernel
theorem dX0_needColour_10 : decode cX0_needColour 10 = .ok (.new 74, 3) := by decide +kernel
theorem dX0_needColour_13 : decode cX0_needColour 13 = .ok (.dup, 1) := by decide +kernel
theorem dX0_needColour_14 : decode cX0_needColour 14 = .ok (.ldc 193, 2) := by decide +kernel
theorem dX0_needColour_16 : decode cX0_needColour 16 = .ok (.invokespecial 78, 3) := by decide +kernel
theorem dX0_needColour_19 : decode cX0_needColour 19 = .ok (.athrow, 1) := by decide +kernel
theorem dX0_needColour_20 : decode cX0_needColour 20 = .ok (.return_, 1) := by decide +kernel
theorem dX0_needKind_0 : decode cX0_needKind 0 = .ok (.iload_n 0, 1) := by decide +kernel
theorem dX0_needKind_1 : decode cX0_needKind 1 = .ok (.ifCond .lt 8, 3) := by decide +kernel
theorem dX0_needKind_4 : decode cX0_needKind 4 = .ok (.iload_n 0, 1) := by decide +kernel
theorem dX0_needKind_5 : decode cX0_needKind 5 = .ok (.iconst 4, 1) := by decide +kernel
theorem dX0_needKind_6 : decode cX0_needKind 6 = .ok (.if_icmp .lt 13, 3) := by decide +kernel
theorem dX0_needKind_9 : decode cX0_needKind 9 = .ok (.new 74, 3) := by decide +kernel
theorem dX0_needKind_12 : decode cX0_needKind 12 = .ok (.dup, 1) := by decide +kernel
theorem dX0_needKind_13 : decode cX0_needKind 13 = .ok (.ldc 195, 2) := by decide +kernel
theorem dX0_needKind_15 : decode cX0_needKind 15 = .ok (.invokespecial 78, 3) := by decide +kernel
theorem dX0_needKind_18 : decode cX0_needKind 18 = .ok (.athrow, 1) := by decide +kernel
theorem dX0_needKind_19 : decode cX0_needKind 19 = .ok (.return_, 1) := by decide +kernel
set_option maxRecDepth 20000 in
theorem ggX0_tellSkin_X0_tallySkin : GoodIn wsX0_tellSkin wsX0_tallySkin := goodIn_r _ [7, 8, 9, 10, 6, 11, 12, 13, 14, 15, 16, 17, 18, 19, 20, 21, 22, 23, 24, 25, 26, 27] (by decide +kernel) (by decide +kernel)
set_option maxRecDepth 20000 in
theorem gX0_tellSkin_X0_tallySkin : GoodIn wsX0_tellSkin (wsV RX0 174 RX0 yX0_tallySkin wsX0_tallySkin) := goodIn_app (goodIn_of _ (by decide +kernel)) ggX0_tellSkin_X0_tallySkin
theorem dX0_tellSkin_0 : decode cX0_tellSkin 0 = .ok (.iload_n 2, 1) := by decide +kernel
theorem dX0_tellSkin_1 : decode cX0_tellSkin 1 = .ok (.tableswitch 70 0 4 #[35, 42, 49, 56, 63], 35) := by decide +kernel
theorem dX0_tellSkin_36 : decode cX0_tellSkin 36 = .ok (.aload_n 0, 1) := by decide +kernel
theorem dX0_tellSkin_37 : decode cX0_tellSkin 37 = .ok (.getfield 9, 3) := by decide +kernel
theorem dX0_tellSkin_40 : decode cX0_tellSkin 40 = .ok (.iload_n 1, 1) := by decide +kernel
theorem dX0_tellSkin_41 : decode cX0_tellSkin 41 = .ok (.iaload, 1) := by decide +kernel
theorem dX0_tellSkin_42 : decode cX0_tellSkin 42 = .ok (.ireturn, 1) := by decide +kernel
theorem dX0_tellSkin_43 : decode cX0_tellSkin 43 = .ok (.aload_n 0, 1) := by decide +kernel
theorem dX0_tellSkin_44 : decode cX0_tellSkin 44 = .ok (.iload_n 1, 1) := by decide +kernel
theorem dX0_tellSkin_45 : decode cX0_tellSkin 45 = .ok (.iconst 0, 1) := by decide +kernel
theorem dX0_tellSkin_46 : decode cX0_tellSkin 46 = .ok (.invokevirtual 174, 3) := by decide +kernel
theorem dX0_tellSkin_49 : decode cX0_tellSkin 49 = .ok (.ireturn, 1) := by decide +kernel
theorem dX0_tellSkin_50 : decode cX0_tellSkin 50 = .ok (.aload_n 0, 1) := by decide +kernel
theorem dX0_tellSkin_51 : decode cX0_tellSkin 51 = .ok (.iload_n 1, 1) := by decide +kernel
theorem dX0_tellSkin_52 : decode cX0_tellSkin 52 = .ok (.iconst 1, 1) := by decide +kernel
theorem dX0_tellSkin_53 : decode cX0_tellSkin 53 = .ok (.invokevirtual 174, 3) := by decide +kernel
theorem dX0_tellSkin_56 : decode cX0_tellSkin 56 = .ok (.ireturn, 1) := by decide +kernel
theorem dX0_tellSkin_57 : decode cX0_tellSkin 57 = .ok (.aload_n 0, 1) := by decide +kernel
theorem dX0_tellSkin_58 : decode cX0_tellSkin 58 = .ok (.iload_n 1, 1) := by decide +kernel
theorem dX0_tellSkin_59 : decode cX0_tellSkin 59 = .ok (.iconst 2, 1) := by decide +kernel
theorem dX0_tellSkin_60 : decode cX0_tellSkin 60 = .ok (.invokevirtual 174, 3) := by decide +kernel
theorem dX0_tellSkin_63 : decode cX0_tellSkin 63 = .ok (.ireturn, 1) := by decide +kernel
theorem dX0_tellSkin_64 : decode cX0_tellSkin 64 = .ok (.aload_n 0, 1) := by decide +kernel
theorem dX0_tellSkin_65 : decode cX0_tellSkin 65 = .ok (.iload_n 1, 1) := by decide +kernel
theorem dX0_tellSkin_66 : decode cX0_tellSkin 66 = .ok (.iconst 3, 1) := by decide +kernel
theorem dX0_tellSkin_67 : decode cX0_tellSkin 67 = .ok (.invokevirtual 174, 3) := by decide +kernel
theorem dX0_tellSkin_70 : decode cX0_tellSkin 70 = .ok (.ireturn, 1) := by decide +kernel
theorem dX0_tellSkin_71 : decode cX0_tellSkin 71 = .ok (.aload_n 0, 1) := by decide +kernel
theorem dX0_tellSkin_72 : decode cX0_tellSkin 72 = .ok (.getfield 13, 3) := by decide +kernel
theorem dX0_tellSkin_75 : decode cX0_tellSkin 75 = .ok (.iload_n 1, 1) := by decide +kernel
theorem dX0_tellSkin_76 : decode cX0_tellSkin 76 = .ok (.iaload, 1) := by decide +kernel
theorem dX0_tellSkin_77 : decode cX0_tellSkin 77 = .ok (.ireturn, 1) := by decide +kernel
theorem dX0_tellPiece_0 : decode cX0_tellPiece 0 = .ok (.iload_n 2, 1) := by decide +kernel
theorem dX0_tellPiece_1 : decode cX0_tellPiece 1 = .ok (.tableswitch 48 0 2 #[27, 34, 41], 27) := by decide +kernel
theorem dX0_tellPiece_28 : decode cX0_tellPiece 28 = .ok (.aload_n 0, 1) := by decide +kernel
theorem dX0_tellPiece_29 : decode cX0_tellPiece 29 = .ok (.getfield 21, 3) := by decide +kernel
theorem dX0_tellPiece_32 : decode cX0_tellPiece 32 = .ok (.iload_n 1, 1) := by decide +kernel
theorem dX0_tellPiece_33 : decode cX0_tellPiece 33 = .ok (.iaload, 1) := by decide +kernel
theorem dX0_tellPiece_34 : decode cX0_tellPiece 34 = .ok (.ireturn, 1) := by decide +kernel
theorem dX0_tellPiece_35 : decode cX0_tellPiece 35 = .ok (.aload_n 0, 1) := by decide +kernel
theorem dX0_tellPiece_36 : decode cX0_tellPiece 36 = .ok (.getfield 24, 3) := by decide +kernel
theorem dX0_tellPiece_39 : decode cX0_tellPiece 39 = .ok (.iload_n 1, 1) := by decide +kernel
theorem dX0_tellPiece_40 : decode cX0_tellPiece 40 = .ok (.iaload, 1) := by decide +kernel
theorem dX0_tellPiece_41 : decode cX0_tellPiece 41 = .ok (.ireturn, 1) := by decide +kernel
theorem dX0_tellPiece_42 : decode cX0_tellPiece 42 = .ok (.aload_n 0, 1) := by decide +kernel
theorem dX0_tellPiece_43 : decode cX0_tellPiece 43 = .ok (.getfield 27, 3) := by decide +kernel
theorem dX0_tellPiece_46 : decode cX0_tellPiece 46 = .ok (.iload_n 1, 1) := by decide +kernel
theorem dX0_tellPiece_47 : decode cX0_tellPiece 47 = .ok (.iaload, 1) := by decide +kernel
theorem dX0_tellPiece_48 : decode cX0_tellPiece 48 = .ok (.ireturn, 1) := by decide +kernel
theorem dX0_tellPiece_49 : decode cX0_tellPiece 49 = .ok (.aload_n 0, 1) := by decide +kernel
theorem dX0_tellPiece_50 : decode cX0_tellPiece 50 = .ok (.getfield 30, 3) := by decide +kernel
theorem dX0_tellPiece_53 : decode cX0_tellPiece 53 = .ok (.iload_n 1, 1) := by decide +kernel
theorem dX0_tellPiece_54 : decode cX0_tellPiece 54 = .ok (.iaload, 1) := by decide +kernel
theorem dX0_tellPiece_55 : decode cX0_tellPiece 55 = .ok (.ireturn, 1) := by decide +kernel
theorem dX0_tellPair_0 : decode cX0_tellPair 0 = .ok (.iload_n 2, 1) := by decide +kernel
theorem dX0_tellPair_1 : decode cX0_tellPair 1 = .ok (.tableswitch 59 0 3 #[31, 38, 45, 52], 31) := by decide +kernel
theorem dX0_tellPair_32 : decode cX0_tellPair 32 = .ok (.aload_n 0, 1) := by decide +kernel
theorem dX0_tellPair_33 : decode cX0_tellPair 33 = .ok (.getfield 33, 3) := by decide +kernel
theorem dX0_tellPair_36 : decode cX0_tellPair 36 = .ok (.iload_n 1, 1) := by decide +kernel
theorem dX0_tellPair_37 : decode cX0_tellPair 37 = .ok (.iaload, 1) := by decide +kernel
theorem dX0_tellPair_38 : decode cX0_tellPair 38 = .ok (.ireturn, 1) := by decide +kernel
theorem dX0_tellPair_39 : decode cX0_tellPair 39 = .ok (.aload_n 0, 1) := by decide +kernel
theorem dX0_tellPair_40 : decode cX0_tellPair 40 = .ok (.getfield 36, 3) := by decide +kernel
theorem dX0_tellPair_43 : decode cX0_tellPair 43 = .ok (.iload_n 1, 1) := by decide +kernel
theorem dX0_tellPair_44 : decode cX0_tellPair 44 = .ok (.iaload, 1) := by decide +kernel
theorem dX0_tellPair_45 : decode cX0_tellPair 45 = .ok (.ireturn, 1) := by decide +kernel
theorem dX0_tellPair_46 : decode cX0_tellPair 46 = .ok (.aload_n 0, 1) := by decide +kernel
theorem dX0_tellPair_47 : decode cX0_tellPair 47 = .ok (.getfield 39, 3) := by decide +kernel
theorem dX0_tellPair_50 : decode cX0_tellPair 50 = .ok (.iload_n 1, 1) := by decide +kernel
theorem dX0_tellPair_51 : decode cX0_tellPair 51 = .ok (.iaload, 1) := by decide +kernel
theorem dX0_tellPair_52 : decode cX0_tellPair 52 = .ok (.ireturn, 1) := by decide +kernel
theorem dX0_tellPair_53 : decode cX0_tellPair 53 = .ok (.aload_n 0, 1) := by decide +kernel
theorem dX0_tellPair_54 : decode cX0_tellPair 54 = .ok (.getfield 42, 3) := by decide +kernel
theorem dX0_tellPair_57 : decode cX0_tellPair 57 = .ok (.iload_n 1, 1) := by decide +kernel
theorem dX0_tellPair_58 : decode cX0_tellPair 58 = .ok (.iaload, 1) := by decide +kernel
theorem dX0_tellPair_59 : decode cX0_tellPair 59 = .ok (.ireturn, 1) := by decide +kernel
theorem dX0_tellPair_60 : decode cX0_tellPair 60 = .ok (.aload_n 0, 1) := by decide +kernel
theorem dX0_tellPair_61 : decode cX0_tellPair 61 = .ok (.getfield 45, 3) := by decide +kernel
theorem dX0_tellPair_64 : decode cX0_tellPair 64 = .ok (.iload_n 1, 1) := by decide +kernel
theorem dX0_tellPair_65 : decode cX0_tellPair 65 = .ok (.baload, 1) := by decide +kernel
theorem dX0_tellPair_66 : decode cX0_tellPair 66 = .ok (.ifCond .eq 7, 3) := by decide +kernel
theorem dX0_tellPair_69 : decode cX0_tellPair 69 = .ok (.iconst 1, 1) := by decide +kernel
theorem dX0_tellPair_70 : decode cX0_tellPair 70 = .ok (.goto 4, 3) := by decide +kernel
theorem dX0_tellPair_73 : decode cX0_tellPair 73 = .ok (.iconst 0, 1) := by decide +kernel
theorem dX0_tellPair_74 : decode cX0_tellPair 74 = .ok (.ireturn, 1) := by decide +kernel
set_option maxRecDepth 20000 in
theorem ggX0_tellCount_X0_piecesAt : GoodIn wsX0_tellCount wsX0_piecesAt := goodIn_r _ [8, 2, 9, 15, 16, 17, 18, 19, 20, 21, 22, 23, 24, 25, 26, 27, 28, 29, 30] (by decide +kernel) (by decide +kernel)
set_option maxRecDepth 20000 in
theorem gX0_tellCount_X0_piecesAt : GoodIn wsX0_tellCount (wsV RX0 197 RX0 yX0_piecesAt wsX0_piecesAt) := goodIn_app (goodIn_of _ (by decide +kernel)) ggX0_tellCount_X0_piecesAt
set_option maxRecDepth 20000 in
theorem ggX0_tellCount_X0_pairsInUse : GoodIn wsX0_tellCount wsX0_pairsInUse := goodIn_r _ [13, 3, 14, 15, 16, 17, 18, 19, 20, 21, 22, 23, 24, 25, 26, 27, 28, 29, 30] (by decide +kernel) (by decide +kernel)
set_option maxRecDepth 20000 in
theorem gX0_tellCount_X0_pairsInUse : GoodIn wsX0_tellCount (wsV RX0 200 RX0 yX0_pairsInUse wsX0_pairsInUse) := goodIn_app (goodIn_of _ (by decide +kernel)) ggX0_tellCount_X0_pairsInUse
theorem dX0_tellCount_0 : decode cX0_tellCount 0 = .ok (.iload_n 1, 1) := by decide +kernel
theorem dX0_tellCount_1 : decode cX0_tellCount 1 = .ok (.tableswitch 85 0 5 #[39, 44, 49, 55, 73, 80], 39) := by decide +kernel
theorem dX0_tellCount_40 : decode cX0_tellCount 40 = .ok (.aload_n 0, 1) := by decide +kernel
theorem dX0_tellCount_41 : decode cX0_tellCount 41 = .ok (.getfield 56, 3) := by decide +kernel
theorem dX0_tellCount_44 : decode cX0_tellCount 44 = .ok (.ireturn, 1) := by decide +kernel
theorem dX0_tellCount_45 : decode cX0_tellCount 45 = .ok (.aload_n 0, 1) := by decide +kernel
theorem dX0_tellCount_46 : decode cX0_tellCount 46 = .ok (.getfield 107, 3) := by decide +kernel
theorem dX0_tellCount_49 : decode cX0_tellCount 49 = .ok (.ireturn, 1) := by decide +kernel
theorem dX0_tellCount_50 : decode cX0_tellCount 50 = .ok (.aload_n 0, 1) := by decide +kernel
theorem dX0_tellCount_51 : decode cX0_tellCount 51 = .ok (.iconst (-1), 1) := by decide +kernel
theorem dX0_tellCount_52 : decode cX0_tellCount 52 = .ok (.invokevirtual 197, 3) := by decide +kernel
theorem dX0_tellCount_55 : decode cX0_tellCount 55 = .ok (.ireturn, 1) := by decide +kernel
theorem dX0_tellCount_56 : decode cX0_tellCount 56 = .ok (.aload_n 0, 1) := by decide +kernel
theorem dX0_tellCount_57 : decode cX0_tellCount 57 = .ok (.getfield 107, 3) := by decide +kernel
theorem dX0_tellCount_60 : decode cX0_tellCount 60 = .ok (.aload_n 0, 1) := by decide +kernel
theorem dX0_tellCount_61 : decode cX0_tellCount 61 = .ok (.iconst (-1), 1) := by decide +kernel
theorem dX0_tellCount_62 : decode cX0_tellCount 62 = .ok (.invokevirtual 197, 3) := by decide +kernel
theorem dX0_tellCount_65 : decode cX0_tellCount 65 = .ok (.isub, 1) := by decide +kernel
theorem dX0_tellCount_66 : decode cX0_tellCount 66 = .ok (.aload_n 0, 1) := by decide +kernel
theorem dX0_tellCount_67 : decode cX0_tellCount 67 = .ok (.bipush (-2), 2) := by decide +kernel
theorem dX0_tellCount_69 : decode cX0_tellCount 69 = .ok (.invokevirtual 197, 3) := by decide +kernel
theorem dX0_tellCount_72 : decode cX0_tellCount 72 = .ok (.isub, 1) := by decide +kernel
theorem dX0_tellCount_73 : decode cX0_tellCount 73 = .ok (.ireturn, 1) := by decide +kernel
theorem dX0_tellCount_74 : decode cX0_tellCount 74 = .ok (.aload_n 0, 1) := by decide +kernel
theorem dX0_tellCount_75 : decode cX0_tellCount 75 = .ok (.bipush (-2), 2) := by decide +kernel
theorem dX0_tellCount_77 : decode cX0_tellCount 77 = .ok (.invokevirtual 197, 3) := by decide +kernel
theorem dX0_tellCount_80 : decode cX0_tellCount 80 = .ok (.ireturn, 1) := by decide +kernel
theorem dX0_tellCount_81 : decode cX0_tellCount 81 = .ok (.aload_n 0, 1) := by decide +kernel
theorem dX0_tellCount_82 : decode cX0_tellCount 82 = .ok (.getfield 136, 3) := by decide +kernel
theorem dX0_tellCount_85 : decode cX0_tellCount 85 = .ok (.ireturn, 1) := by decide +kernel
theorem dX0_tellCount_86 : decode cX0_tellCount 86 = .ok (.aload_n 0, 1) := by decide +kernel
theorem dX0_tellCount_87 : decode cX0_tellCount 87 = .ok (.invokevirtual 200, 3) := by decide +kernel
theorem dX0_tellCount_90 : decode cX0_tellCount 90 = .ok (.ireturn, 1) := by decide +kernel
theorem dX0_piecesAt_0 : decode cX0_piecesAt 0 = .ok (.iconst 0, 1) := by decide +kernel
theorem dX0_piecesAt_1 : decode cX0_piecesAt 1 = .ok (.istore_n 2, 1) := by decide +kernel
theorem dX0_piecesAt_2 : decode cX0_piecesAt 2 = .ok (.iconst 0, 1) := by decide +kernel
theorem dX0_piecesAt_3 : decode cX0_piecesAt 3 = .ok (.istore_n 3, 1) := by decide +kernel
theorem dX0_piecesAt_4 : decode cX0_piecesAt 4 = .ok (.iload_n 3, 1) := by decide +kernel
theorem dX0_piecesAt_5 : decode cX0_piecesAt 5 = .ok (.aload_n 0, 1) := by decide +kernel
theorem dX0_piecesAt_6 : decode cX0_piecesAt 6 = .ok (.getfield 107, 3) := by decide +kernel
theorem dX0_piecesAt_9 : decode cX0_piecesAt 9 = .ok (.if_icmp .ge 22, 3) := by decide +kernel
theorem dX0_piecesAt_12 : decode cX0_piecesAt 12 = .ok (.aload_n 0, 1) := by decide +kernel
theorem dX0_piecesAt_13 : decode cX0_piecesAt 13 = .ok (.getfield 27, 3) := by decide +kernel
theorem dX0_piecesAt_16 : decode cX0_piecesAt 16 = .ok (.iload_n 3, 1) := by decide +kernel
theorem dX0_piecesAt_17 : decode cX0_piecesAt 17 = .ok (.iaload, 1) := by decide +kernel
theorem dX0_piecesAt_18 : decode cX0_piecesAt 18 = .ok (.iload_n 1, 1) := by decide +kernel
theorem dX0_piecesAt_19 : decode cX0_piecesAt 19 = .ok (.if_icmp .ne 6, 3) := by decide +kernel
theorem dX0_piecesAt_22 : decode cX0_piecesAt 22 = .ok (.iinc 2 1, 3) := by decide +kernel
theorem dX0_piecesAt_25 : decode cX0_piecesAt 25 = .ok (.iinc 3 1, 3) := by decide +kernel
theorem dX0_piecesAt_28 : decode cX0_piecesAt 28 = .ok (.goto (-24), 3) := by decide +kernel
theorem dX0_piecesAt_31 : decode cX0_piecesAt 31 = .ok (.iload_n 2, 1) := by decide +kernel
theorem dX0_piecesAt_32 : decode cX0_piecesAt 32 = .ok (.ireturn, 1) := by decide +kernel
theorem dX0_pairsInUse_0 : decode cX0_pairsInUse 0 = .ok (.iconst 0, 1) := by decide +kernel
theorem dX0_pairsInUse_1 : decode cX0_pairsInUse 1 = .ok (.istore_n 1, 1) := by decide +kernel
theorem dX0_pairsInUse_2 : decode cX0_pairsInUse 2 = .ok (.iconst 0, 1) := by decide +kernel
theorem dX0_pairsInUse_3 : decode cX0_pairsInUse 3 = .ok (.istore_n 2, 1) := by decide +kernel
theorem dX0_pairsInUse_4 : decode cX0_pairsInUse 4 = .ok (.iload_n 2, 1) := by decide +kernel
theorem dX0_pairsInUse_5 : decode cX0_pairsInUse 5 = .ok (.aload_n 0, 1) := by decide +kernel
theorem dX0_pairsInUse_6 : decode cX0_pairsInUse 6 = .ok (.getfield 136, 3) := by decide +kernel
theorem dX0_pairsInUse_9 : decode cX0_pairsInUse 9 = .ok (.if_icmp .ge 21, 3) := by decide +kernel
theorem dX0_pairsInUse_12 : decode cX0_pairsInUse 12 = .ok (.aload_n 0, 1) := by decide +kernel
theorem dX0_pairsInUse_13 : decode cX0_pairsInUse 13 = .ok (.getfield 45, 3) := by decide +kernel
theorem dX0_pairsInUse_16 : decode cX0_pairsInUse 16 = .ok (.iload_n 2, 1) := by decide +kernel
theorem dX0_pairsInUse_17 : decode cX0_pairsInUse 17 = .ok (.baload, 1) := by decide +kernel
theorem dX0_pairsInUse_18 : decode cX0_pairsInUse 18 = .ok (.ifCond .ne 6, 3) := by decide +kernel
theorem dX0_pairsInUse_21 : decode cX0_pairsInUse 21 = .ok (.iinc 1 1, 3) := by decide +kernel
theorem dX0_pairsInUse_24 : decode cX0_pairsInUse 24 = .ok (.iinc 2 1, 3) := by decide +kernel
theorem dX0_pairsInUse_27 : decode cX0_pairsInUse 27 = .ok (.goto (-23), 3) := by decide +kernel
theorem dX0_pairsInUse_30 : decode cX0_pairsInUse 30 = .ok (.iload_n 1, 1) := by decide +kernel
theorem dX0_pairsInUse_31 : decode cX0_pairsInUse 31 = .ok (.ireturn, 1) := by decide +kernel
set_option maxRecDepth 20000 in
theorem ggX0_tallySkin_X0_tally : GoodIn wsX0_tallySkin wsX0_tally := goodIn_r _ [5] (by decide +kernel) (by decide +kernel)
set_option maxRecDepth 20000 in
theorem gX0_tallySkin_X0_tally : GoodIn wsX0_tallySkin (va_wsS RX0 81 yX0_tally wsX0_tally) := goodIn_app (goodIn_of _ (by decide +kernel)) ggX0_tallySkin_X0_tally
theorem dX0_tallySkin_0 : decode cX0_tallySkin 0 = .ok (.aload_n 0, 1) := by decide +kernel
theorem dX0_tallySkin_1 : decode cX0_tallySkin 1 = .ok (.getfield 18, 3) := by decide +kernel
theorem dX0_tallySkin_4 : decode cX0_tallySkin 4 = .ok (.iload_n 1, 1) := by decide +kernel
theorem dX0_tallySkin_5 : decode cX0_tallySkin 5 = .ok (.aaload, 1) := by decide +kernel
theorem dX0_tallySkin_6 : decode cX0_tallySkin 6 = .ok (.iconst 0, 1) := by decide +kernel
theorem dX0_tallySkin_7 : decode cX0_tallySkin 7 = .ok (.iconst 0, 1) := by decide +kernel
theorem dX0_tallySkin_8 : decode cX0_tallySkin 8 = .ok (.bipush 12, 2) := by decide +kernel
theorem dX0_tallySkin_10 : decode cX0_tallySkin 10 = .ok (.bipush 8, 2) := by decide +kernel
theorem dX0_tallySkin_12 : decode cX0_tallySkin 12 = .ok (.iload_n 2, 1) := by decide +kernel
theorem dX0_tallySkin_13 : decode cX0_tallySkin 13 = .ok (.invokestatic 81, 3) := by decide +kernel
theorem dX0_tallySkin_16 : decode cX0_tallySkin 16 = .ok (.ireturn, 1) := by decide +kernel
theorem dX0_tally_0 : decode cX0_tally 0 = .ok (.iconst 0, 1) := by decide +kernel
theorem dX0_tally_1 : decode cX0_tally 1 = .ok (.istore 6, 2) := by decide +kernel
theorem dX0_tally_3 : decode cX0_tally 3 = .ok (.iload_n 2, 1) := by decide +kernel
theorem dX0_tally_4 : decode cX0_tally 4 = .ok (.istore 7, 2) := by decide +kernel
theorem dX0_tally_6 : decode cX0_tally 6 = .ok (.iload 7, 2) := by decide +kernel
theorem dX0_tally_8 : decode cX0_tally 8 = .ok (.iload_n 2, 1) := by decide +kernel
theorem dX0_tally_9 : decode cX0_tally 9 = .ok (.iload 4, 2) := by decide +kernel
theorem dX0_tally_11 : decode cX0_tally 11 = .ok (.iadd, 1) := by decide +kernel
theorem dX0_tally_12 : decode cX0_tally 12 = .ok (.if_icmp .ge 44, 3) := by decide +kernel
theorem dX0_tally_15 : decode cX0_tally 15 = .ok (.iload_n 1, 1) := by decide +kernel
theorem dX0_tally_16 : decode cX0_tally 16 = .ok (.istore 8, 2) := by decide +kernel
theorem dX0_tally_18 : decode cX0_tally 18 = .ok (.iload 8, 2) := by decide +kernel
theorem dX0_tally_20 : decode cX0_tally 20 = .ok (.iload_n 1, 1) := by decide +kernel
theorem dX0_tally_21 : decode cX0_tally 21 = .ok (.iload_n 3, 1) := by decide +kernel
theorem dX0_tally_22 : decode cX0_tally 22 = .ok (.iadd, 1) := by decide +kernel
theorem dX0_tally_23 : decode cX0_tally 23 = .ok (.if_icmp .ge 27, 3) := by decide +kernel
theorem dX0_tally_26 : decode cX0_tally 26 = .ok (.aload_n 0, 1) := by decide +kernel
theorem dX0_tally_27 : decode cX0_tally 27 = .ok (.bipush 12, 2) := by decide +kernel
theorem dX0_tally_29 : decode cX0_tally 29 = .ok (.iload 7, 2) := by decide +kernel
theorem dX0_tally_31 : decode cX0_tally 31 = .ok (.imul, 1) := by decide +kernel
theorem dX0_tally_32 : decode cX0_tally 32 = .ok (.iload 8, 2) := by decide +kernel
theorem dX0_tally_34 : decode cX0_tally 34 = .ok (.iadd, 1) := by decide +kernel
theorem dX0_tally_35 : decode cX0_tally 35 = .ok (.iaload, 1) := by decide +kernel
theorem dX0_tally_36 : decode cX0_tally 36 = .ok (.iload 5, 2) := by decide +kernel
theorem dX0_tally_38 : decode cX0_tally 38 = .ok (.if_icmp .ne 6, 3) := by decide +kernel
theorem dX0_tally_41 : decode cX0_tally 41 = .ok (.iinc 6 1, 3) := by decide +kernel
theorem dX0_tally_44 : decode cX0_tally 44 = .ok (.iinc 8 1, 3) := by decide +kernel
theorem dX0_tally_47 : decode cX0_tally 47 = .ok (.goto (-29), 3) := by decide +kernel
theorem dX0_tally_50 : decode cX0_tally 50 = .ok (.iinc 7 1, 3) := by decide +kernel
theorem dX0_tally_53 : decode cX0_tally 53 = .ok (.goto (-47), 3) := by decide +kernel
theorem dX0_tally_56 : decode cX0_tally 56 = .ok (.iload 6, 2) := by decide +kernel
theorem dX0_tally_58 : decode cX0_tally 58 = .ok (.ireturn, 1) := by decide +kernel
theorem dX0_paint_0 : decode cX0_paint 0 = .ok (.iload_n 2, 1) := by decide +kernel
theorem dX0_paint_1 : decode cX0_paint 1 = .ok (.istore 6, 2) := by decide +kernel
theorem dX0_paint_3 : decode cX0_paint 3 = .ok (.iload 6, 2) := by decide +kernel
theorem dX0_paint_5 : decode cX0_paint 5 = .ok (.iload_n 2, 1) := by decide +kernel
theorem dX0_paint_6 : decode cX0_paint 6 = .ok (.iload 4, 2) := by decide +kernel
theorem dX0_paint_8 : decode cX0_paint 8 = .ok (.iadd, 1) := by decide +kernel
theorem dX0_paint_9 : decode cX0_paint 9 = .ok (.if_icmp .ge 38, 3) := by decide +kernel
theorem dX0_paint_12 : decode cX0_paint 12 = .ok (.iload_n 1, 1) := by decide +kernel
theorem dX0_paint_13 : decode cX0_paint 13 = .ok (.istore 7, 2) := by decide +kernel
theorem dX0_paint_15 : decode cX0_paint 15 = .ok (.iload 7, 2) := by decide +kernel
theorem dX0_paint_17 : decode cX0_paint 17 = .ok (.iload_n 1, 1) := by decide +kernel
theorem dX0_paint_18 : decode cX0_paint 18 = .ok (.iload_n 3, 1) := by decide +kernel
theorem dX0_paint_19 : decode cX0_paint 19 = .ok (.iadd, 1) := by decide +kernel
theorem dX0_paint_20 : decode cX0_paint 20 = .ok (.if_icmp .ge 21, 3) := by decide +kernel
theorem dX0_paint_23 : decode cX0_paint 23 = .ok (.aload_n 0, 1) := by decide +kernel
theorem dX0_paint_24 : decode cX0_paint 24 = .ok (.bipush 12, 2) := by decide +kernel
theorem dX0_paint_26 : decode cX0_paint 26 = .ok (.iload 6, 2) := by decide +kernel
theorem dX0_paint_28 : decode cX0_paint 28 = .ok (.imul, 1) := by decide +kernel
theorem dX0_paint_29 : decode cX0_paint 29 = .ok (.iload 7, 2) := by decide +kernel
theorem dX0_paint_31 : decode cX0_paint 31 = .ok (.iadd, 1) := by decide +kernel
theorem dX0_paint_32 : decode cX0_paint 32 = .ok (.iload 5, 2) := by decide +kernel
theorem dX0_paint_34 : decode cX0_paint 34 = .ok (.iastore, 1) := by decide +kernel
theorem dX0_paint_35 : decode cX0_paint 35 = .ok (.iinc 7 1, 3) := by decide +kernel
theorem dX0_paint_38 : decode cX0_paint 38 = .ok (.goto (-23), 3) := by decide +kernel
theorem dX0_paint_41 : decode cX0_paint 41 = .ok (.iinc 6 1, 3) := by decide +kernel
theorem dX0_paint_44 : decode cX0_paint 44 = .ok (.goto (-41), 3) := by decide +kernel
theorem dX0_paint_47 : decode cX0_paint 47 = .ok (.return_, 1) := by decide +kernel
theorem dX0_wideOf_0 : decode cX0_wideOf 0 = .ok (.iload_n 1, 1) := by decide +kernel
theorem dX0_wideOf_1 : decode cX0_wideOf 1 = .ok (.ifCond .eq 11, 3) := by decide +kernel
theorem dX0_wideOf_4 : decode cX0_wideOf 4 = .ok (.getstatic 204, 3) := by decide +kernel
theorem dX0_wideOf_7 : decode cX0_wideOf 7 = .ok (.iload_n 0, 1) := by decide +kernel
theorem dX0_wideOf_8 : decode cX0_wideOf 8 = .ok (.iaload, 1) := by decide +kernel
theorem dX0_wideOf_9 : decode cX0_wideOf 9 = .ok (.goto 8, 3) := by decide +kernel
theorem dX0_wideOf_12 : decode cX0_wideOf 12 = .ok (.getstatic 207, 3) := by decide +kernel
theorem dX0_wideOf_15 : decode cX0_wideOf 15 = .ok (.iload_n 0, 1) := by decide +kernel
theorem dX0_wideOf_16 : decode cX0_wideOf 16 = .ok (.iaload, 1) := by decide +kernel
theorem dX0_wideOf_17 : decode cX0_wideOf 17 = .ok (.ireturn, 1) := by decide +kernel
theorem dX0_highOf_0 : decode cX0_highOf 0 = .ok (.iload_n 1, 1) := by decide +kernel
theorem dX0_highOf_1 : decode cX0_highOf 1 = .ok (.ifCond .eq 11, 3) := by decide +kernel
theorem dX0_highOf_4 : decode cX0_highOf 4 = .ok (.getstatic 207, 3) := by decide +kernel
theorem dX0_highOf_7 : decode cX0_highOf 7 = .ok (.iload_n 0, 1) := by decide +kernel
theorem dX0_highOf_8 : decode cX0_highOf 8 = .ok (.iaload, 1) := by decide +kernel
theorem dX0_highOf_9 : decode cX0_highOf 9 = .ok (.goto 8, 3) := by decide +kernel
theorem dX0_highOf_12 : decode cX0_highOf 12 = .ok (.getstatic 204, 3) := by decide +kernel
theorem dX0_highOf_15 : decode cX0_highOf 15 = .ok (.iload_n 0, 1) := by decide +kernel
theorem dX0_highOf_16 : decode cX0_highOf 16 = .ok (.iaload, 1) := by decide +kernel
theorem dX0_highOf_17 : decode cX0_highOf 17 = .ok (.ireturn, 1) := by decide +kernel
set_option maxRecDepth 20000 in
theorem ggX0_fits_X0_wideOf : GoodIn wsX0_fits wsX0_wideOf := goodIn_r _ [5, 6, 7] (by decide +kernel) (by decide +kernel)
set_option maxRecDepth 20000 in
theorem gX0_fits_X0_wideOf : GoodIn wsX0_fits (va_wsS RX0 112 yX0_wideOf wsX0_wideOf) := goodIn_app (goodIn_of _ (by decide +kernel)) ggX0_fits_X0_wideOf
set_option maxRecDepth 20000 in
theorem ggX0_fits_X0_highOf : GoodIn wsX0_fits wsX0_highOf := goodIn_r _ [10, 7, 6] (by decide +kernel) (by decide +kernel)
set_option maxRecDepth 20000 in
theorem gX0_fits_X0_highOf : GoodIn wsX0_fits (va_wsS RX0 116 yX0_highOf wsX0_highOf) := goodIn_app (goodIn_of _ (by decide +kernel)) ggX0_fits_X0_highOf
set_option maxRecDepth 20000 in
theorem ggX0_fits_X0_tally : GoodIn wsX0_fits wsX0_tally := goodIn_r _ [13] (by decide +kernel) (by decide +kernel)
set_option maxRecDepth 20000 in
theorem gX0_fits_X0_tally : GoodIn wsX0_fits (va_wsS RX0 81 yX0_tally wsX0_tally) := goodIn_app (goodIn_of _ (by decide +kernel)) ggX0_fits_X0_tally
theorem dX0_fits_0 : decode cX0_fits 0 = .ok (.iload_n 1, 1) := by decide +kernel
theorem dX0_fits_1 : decode cX0_fits 1 = .ok (.iload_n 2, 1) := by decide +kernel
theorem dX0_fits_2 : decode cX0_fits 2 = .ok (.invokestatic 112, 3) := by decide +kernel
theorem dX0_fits_5 : decode cX0_fits 5 = .ok (.istore 5, 2) := by decide +kernel
theorem dX0_fits_7 : decode cX0_fits 7 = .ok (.iload_n 1, 1) := by decide +kernel
theorem dX0_fits_8 : decode cX0_fits 8 = .ok (.iload_n 2, 1) := by decide +kernel
theorem dX0_fits_9 : decode cX0_fits 9 = .ok (.invokestatic 116, 3) := by decide +kernel
theorem dX0_fits_12 : decode cX0_fits 12 = .ok (.istore 6, 2) := by decide +kernel
theorem dX0_fits_14 : decode cX0_fits 14 = .ok (.iload 5, 2) := by decide +kernel
theorem dX0_fits_16 : decode cX0_fits 16 = .ok (.bipush 12, 2) := by decide +kernel
theorem dX0_fits_18 : decode cX0_fits 18 = .ok (.iload_n 3, 1) := by decide +kernel
theorem dX0_fits_19 : decode cX0_fits 19 = .ok (.isub, 1) := by decide +kernel
theorem dX0_fits_20 : decode cX0_fits 20 = .ok (.if_icmp .gt 67, 3) := by decide +kernel
theorem dX0_fits_23 : decode cX0_fits 23 = .ok (.iload 6, 2) := by decide +kernel
theorem dX0_fits_25 : decode cX0_fits 25 = .ok (.bipush 8, 2) := by decide +kernel
theorem dX0_fits_27 : decode cX0_fits 27 = .ok (.iload 4, 2) := by decide +kernel
theorem dX0_fits_29 : decode cX0_fits 29 = .ok (.isub, 1) := by decide +kernel
theorem dX0_fits_30 : decode cX0_fits 30 = .ok (.if_icmp .gt 57, 3) := by decide +kernel
theorem dX0_fits_33 : decode cX0_fits 33 = .ok (.aload_n 0, 1) := by decide +kernel
theorem dX0_fits_34 : decode cX0_fits 34 = .ok (.iload_n 3, 1) := by decide +kernel
theorem dX0_fits_35 : decode cX0_fits 35 = .ok (.iload 4, 2) := by decide +kernel
theorem dX0_fits_37 : decode cX0_fits 37 = .ok (.iload 5, 2) := by decide +kernel
theorem dX0_fits_39 : decode cX0_fits 39 = .ok (.iload 6, 2) := by decide +kernel
theorem dX0_fits_41 : decode cX0_fits 41 = .ok (.iconst 2, 1) := by decide +kernel
theorem dX0_fits_42 : decode cX0_fits 42 = .ok (.invokestatic 81, 3) := by decide +kernel
theorem dX0_fits_45 : decode cX0_fits 45 = .ok (.ifCond .ne 42, 3) := by decide +kernel
theorem dX0_fits_48 : decode cX0_fits 48 = .ok (.aload_n 0, 1) := by decide +kernel
theorem dX0_fits_49 : decode cX0_fits 49 = .ok (.iload_n 3, 1) := by decide +kernel
theorem dX0_fits_50 : decode cX0_fits 50 = .ok (.iload 4, 2) := by decide +kernel
theorem dX0_fits_52 : decode cX0_fits 52 = .ok (.iload 5, 2) := by decide +kernel
theorem dX0_fits_54 : decode cX0_fits 54 = .ok (.iload 6, 2) := by decide +kernel
theorem dX0_fits_56 : decode cX0_fits 56 = .ok (.iconst 3, 1) := by decide +kernel
theorem dX0_fits_57 : decode cX0_fits 57 = .ok (.invokestatic 81, 3) := by decide +kernel
theorem dX0_fits_60 : decode cX0_fits 60 = .ok (.ifCond .ne 27, 3) := by decide +kernel
theorem dX0_fits_63 : decode cX0_fits 63 = .ok (.aload_n 0, 1) := by decide +kernel
theorem dX0_fits_64 : decode cX0_fits 64 = .ok (.iload_n 3, 1) := by decide +kernel
theorem dX0_fits_65 : decode cX0_fits 65 = .ok (.iload 4, 2) := by decide +kernel
theorem dX0_fits_67 : decode cX0_fits 67 = .ok (.iload 5, 2) := by decide +kernel
theorem dX0_fits_69 : decode cX0_fits 69 = .ok (.iload 6, 2) := by decide +kernel
theorem dX0_fits_71 : decode cX0_fits 71 = .ok (.iconst 1, 1) := by decide +kernel
theorem dX0_fits_72 : decode cX0_fits 72 = .ok (.invokestatic 81, 3) := by decide +kernel
theorem dX0_fits_75 : decode cX0_fits 75 = .ok (.getstatic 210, 3) := by decide +kernel
theorem dX0_fits_78 : decode cX0_fits 78 = .ok (.iload_n 1, 1) := by decide +kernel
theorem dX0_fits_79 : decode cX0_fits 79 = .ok (.iaload, 1) := by decide +kernel
theorem dX0_fits_80 : decode cX0_fits 80 = .ok (.if_icmp .gt 7, 3) := by decide +kernel
theorem dX0_fits_83 : decode cX0_fits 83 = .ok (.iconst 1, 1) := by decide +kernel
theorem dX0_fits_84 : decode cX0_fits 84 = .ok (.goto 4, 3) := by decide +kernel
theorem dX0_fits_87 : decode cX0_fits 87 = .ok (.iconst 0, 1) := by decide +kernel
theorem dX0_fits_88 : decode cX0_fits 88 = .ok (.ireturn, 1) := by decide +kernel
set_option maxRecDepth 20000 in
theorem ggX0_firstFit_X0_fits : GoodIn wsX0_firstFit wsX0_fits := goodIn_r _ [4, 5, 6, 7, 3, 8, 9, 10, 11, 12, 13, 14, 15, 16] (by decide +kernel) (by decide +kernel)
set_option maxRecDepth 20000 in
theorem gX0_firstFit_X0_fits : GoodIn wsX0_firstFit (va_wsS RX0 101 yX0_fits wsX0_fits) := goodIn_app (goodIn_of _ (by decide +kernel)) ggX0_firstFit_X0_fits
theorem dX0_firstFit_0 : decode cX0_firstFit 0 = .ok (.iload_n 3, 1) := by decide +kernel
theorem dX0_firstFit_1 : decode cX0_firstFit 1 = .ok (.istore 4, 2) := by decide +kernel
theorem dX0_firstFit_3 : decode cX0_firstFit 3 = .ok (.iload 4, 2) := by decide +kernel
theorem dX0_firstFit_5 : decode cX0_firstFit 5 = .ok (.bipush 96, 2) := by decide +kernel
theorem dX0_firstFit_7 : decode cX0_firstFit 7 = .ok (.if_icmp .ge 31, 3) := by decide +kernel
theorem dX0_firstFit_10 : decode cX0_firstFit 10 = .ok (.aload_n 0, 1) := by decide +kernel
theorem dX0_firstFit_11 : decode cX0_firstFit 11 = .ok (.iload_n 1, 1) := by decide +kernel
theorem dX0_firstFit_12 : decode cX0_firstFit 12 = .ok (.iload_n 2, 1) := by decide +kernel
theorem dX0_firstFit_13 : decode cX0_firstFit 13 = .ok (.iload 4, 2) := by decide +kernel
theorem dX0_firstFit_15 : decode cX0_firstFit 15 = .ok (.bipush 12, 2) := by decide +kernel
theorem dX0_firstFit_17 : decode cX0_firstFit 17 = .ok (.irem, 1) := by decide +kernel
theorem dX0_firstFit_18 : decode cX0_firstFit 18 = .ok (.iload 4, 2) := by decide +kernel
theorem dX0_firstFit_20 : decode cX0_firstFit 20 = .ok (.bipush 12, 2) := by decide +kernel
theorem dX0_firstFit_22 : decode cX0_firstFit 22 = .ok (.idiv, 1) := by decide +kernel
theorem dX0_firstFit_23 : decode cX0_firstFit 23 = .ok (.invokestatic 101, 3) := by decide +kernel
theorem dX0_firstFit_26 : decode cX0_firstFit 26 = .ok (.ifCond .eq 6, 3) := by decide +kernel
theorem dX0_firstFit_29 : decode cX0_firstFit 29 = .ok (.iload 4, 2) := by decide +kernel
theorem dX0_firstFit_31 : decode cX0_firstFit 31 = .ok (.ireturn, 1) := by decide +kernel
theorem dX0_firstFit_32 : decode cX0_firstFit 32 = .ok (.iinc 4 1, 3) := by decide +kernel
theorem dX0_firstFit_35 : decode cX0_firstFit 35 = .ok (.goto (-32), 3) := by decide +kernel
theorem dX0_firstFit_38 : decode cX0_firstFit 38 = .ok (.iconst (-1), 1) := by decide +kernel
theorem dX0_firstFit_39 : decode cX0_firstFit 39 = .ok (.ireturn, 1) := by decide +kernel
set_option maxRecDepth 20000 in
theorem ggX0_givenBy_X0_wideOf : GoodIn wsX0_givenBy wsX0_wideOf := goodIn_r _ [10, 11, 12] (by decide +kernel) (by decide +kernel)
set_option maxRecDepth 20000 in
theorem gX0_givenBy_X0_wideOf : GoodIn wsX0_givenBy (va_wsS RX0 112 yX0_wideOf wsX0_wideOf) := goodIn_app (goodIn_of _ (by decide +kernel)) ggX0_givenBy_X0_wideOf
set_option maxRecDepth 20000 in
theorem ggX0_givenBy_X0_highOf : GoodIn wsX0_givenBy wsX0_highOf := goodIn_r _ [15, 12, 11] (by decide +kernel) (by decide +kernel)
set_option maxRecDepth 20000 in
theorem gX0_givenBy_X0_highOf : GoodIn wsX0_givenBy (va_wsS RX0 116 yX0_highOf wsX0_highOf) := goodIn_app (goodIn_of _ (by decide +kernel)) ggX0_givenBy_X0_highOf
set_option maxRecDepth 20000 in
theorem ggX0_givenBy_X0_firstFit : GoodIn wsX0_givenBy wsX0_firstFit := goodIn_r _ [18, 19, 20, 9, 21, 22, 7, 8, 10, 11, 12, 13, 14, 15, 23, 24, 25] (by decide +kernel) (by decide +kernel)
set_option maxRecDepth 20000 in
theorem gX0_givenBy_X0_firstFit : GoodIn wsX0_givenBy (va_wsS RX0 119 yX0_firstFit wsX0_firstFit) := goodIn_app (goodIn_of _ (by decide +kernel)) ggX0_givenBy_X0_firstFit
set_option maxRecDepth 20000 in
theorem ggX0_givenBy_X0_paint : GoodIn wsX0_givenBy wsX0_paint := goodIn_r _ [28] (by decide +kernel) (by decide +kernel)
set_option maxRecDepth 20000 in
theorem gX0_givenBy_X0_paint : GoodIn wsX0_givenBy (va_wsS RX0 87 yX0_paint wsX0_paint) := goodIn_app (goodIn_of _ (by decide +kernel)) ggX0_givenBy_X0_paint
theorem dX0_givenBy_0 : decode cX0_givenBy 0 = .ok (.iload_n 2, 1) := by decide +kernel
theorem dX0_givenBy_1 : decode cX0_givenBy 1 = .ok (.iload_n 3, 1) := by decide +kernel
theorem dX0_givenBy_2 : decode cX0_givenBy 2 = .ok (.invokestatic 112, 3) := by decide +kernel
theorem dX0_givenBy_5 : decode cX0_givenBy 5 = .ok (.istore 4, 2) := by decide +kernel
theorem dX0_givenBy_7 : decode cX0_givenBy 7 = .ok (.iload_n 2, 1) := by decide +kernel
theorem dX0_givenBy_8 : decode cX0_givenBy 8 = .ok (.iload_n 3, 1) := by decide +kernel
theorem dX0_givenBy_9 : decode cX0_givenBy 9 = .ok (.invokestatic 116, 3) := by decide +kernel
theorem dX0_givenBy_12 : decode cX0_givenBy 12 = .ok (.istore 5, 2) := by decide +kernel
theorem dX0_givenBy_14 : decode cX0_givenBy 14 = .ok (.aload_n 0, 1) := by decide +kernel
theorem dX0_givenBy_15 : decode cX0_givenBy 15 = .ok (.getfield 18, 3) := by decide +kernel
theorem dX0_givenBy_18 : decode cX0_givenBy 18 = .ok (.iload_n 1, 1) := by decide +kernel
theorem dX0_givenBy_19 : decode cX0_givenBy 19 = .ok (.aaload, 1) := by decide +kernel
theorem dX0_givenBy_20 : decode cX0_givenBy 20 = .ok (.iconst 0, 1) := by decide +kernel
theorem dX0_givenBy_21 : decode cX0_givenBy 21 = .ok (.aload_n 0, 1) := by decide +kernel
theorem dX0_givenBy_22 : decode cX0_givenBy 22 = .ok (.getfield 49, 3) := by decide +kernel
theorem dX0_givenBy_25 : decode cX0_givenBy 25 = .ok (.iconst 0, 1) := by decide +kernel
theorem dX0_givenBy_26 : decode cX0_givenBy 26 = .ok (.bipush 96, 2) := by decide +kernel
theorem dX0_givenBy_28 : decode cX0_givenBy 28 = .ok (.invokestatic 213, 3) := by decide +kernel
theorem dX0_givenBy_31 : decode cX0_givenBy 31 = .ok (.iconst 0, 1) := by decide +kernel
theorem dX0_givenBy_32 : decode cX0_givenBy 32 = .ok (.istore 6, 2) := by decide +kernel
theorem dX0_givenBy_34 : decode cX0_givenBy 34 = .ok (.aload_n 0, 1) := by decide +kernel
theorem dX0_givenBy_35 : decode cX0_givenBy 35 = .ok (.getfield 49, 3) := by decide +kernel
theorem dX0_givenBy_38 : decode cX0_givenBy 38 = .ok (.iload_n 2, 1) := by decide +kernel
theorem dX0_givenBy_39 : decode cX0_givenBy 39 = .ok (.iload_n 3, 1) := by decide +kernel
theorem dX0_givenBy_40 : decode cX0_givenBy 40 = .ok (.iconst 0, 1) := by decide +kernel
theorem dX0_givenBy_41 : decode cX0_givenBy 41 = .ok (.invokestatic 119, 3) := by decide +kernel
theorem dX0_givenBy_44 : decode cX0_givenBy 44 = .ok (.istore 7, 2) := by decide +kernel
theorem dX0_givenBy_46 : decode cX0_givenBy 46 = .ok (.iload 7, 2) := by decide +kernel
theorem dX0_givenBy_48 : decode cX0_givenBy 48 = .ok (.ifCond .lt 53, 3) := by decide +kernel
theorem dX0_givenBy_51 : decode cX0_givenBy 51 = .ok (.iload 6, 2) := by decide +kernel
theorem dX0_givenBy_53 : decode cX0_givenBy 53 = .ok (.bipush 96, 2) := by decide +kernel
theorem dX0_givenBy_55 : decode cX0_givenBy 55 = .ok (.if_icmp .ge 46, 3) := by decide +kernel
theorem dX0_givenBy_58 : decode cX0_givenBy 58 = .ok (.aload_n 0, 1) := by decide +kernel
theorem dX0_givenBy_59 : decode cX0_givenBy 59 = .ok (.getfield 49, 3) := by decide +kernel
theorem dX0_givenBy_62 : decode cX0_givenBy 62 = .ok (.iload 7, 2) := by decide +kernel
theorem dX0_givenBy_64 : decode cX0_givenBy 64 = .ok (.bipush 12, 2) := by decide +kernel
theorem dX0_givenBy_66 : decode cX0_givenBy 66 = .ok (.irem, 1) := by decide +kernel
theorem dX0_givenBy_67 : decode cX0_givenBy 67 = .ok (.iload 7, 2) := by decide +kernel
theorem dX0_givenBy_69 : decode cX0_givenBy 69 = .ok (.bipush 12, 2) := by decide +kernel
theorem dX0_givenBy_71 : decode cX0_givenBy 71 = .ok (.idiv, 1) := by decide +kernel
theorem dX0_givenBy_72 : decode cX0_givenBy 72 = .ok (.iload 4, 2) := by decide +kernel
theorem dX0_givenBy_74 : decode cX0_givenBy 74 = .ok (.iload 5, 2) := by decide +kernel
theorem dX0_givenBy_76 : decode cX0_givenBy 76 = .ok (.iconst 3, 1) := by decide +kernel
theorem dX0_givenBy_77 : decode cX0_givenBy 77 = .ok (.invokestatic 87, 3) := by decide +kernel
theorem dX0_givenBy_80 : decode cX0_givenBy 80 = .ok (.iinc 6 1, 3) := by decide +kernel
theorem dX0_givenBy_83 : decode cX0_givenBy 83 = .ok (.aload_n 0, 1) := by decide +kernel
theorem dX0_givenBy_84 : decode cX0_givenBy 84 = .ok (.getfield 49, 3) := by decide +kernel
theorem dX0_givenBy_87 : decode cX0_givenBy 87 = .ok (.iload_n 2, 1) := by decide +kernel
theorem dX0_givenBy_88 : decode cX0_givenBy 88 = .ok (.iload_n 3, 1) := by decide +kernel
theorem dX0_givenBy_89 : decode cX0_givenBy 89 = .ok (.iload 7, 2) := by decide +kernel
theorem dX0_givenBy_91 : decode cX0_givenBy 91 = .ok (.iconst 1, 1) := by decide +kernel
theorem dX0_givenBy_92 : decode cX0_givenBy 92 = .ok (.iadd, 1) := by decide +kernel
theorem dX0_givenBy_93 : decode cX0_givenBy 93 = .ok (.invokestatic 119, 3) := by decide +kernel
theorem dX0_givenBy_96 : decode cX0_givenBy 96 = .ok (.istore 7, 2) := by decide +kernel
theorem dX0_givenBy_98 : decode cX0_givenBy 98 = .ok (.goto (-52), 3) := by decide +kernel
theorem dX0_givenBy_101 : decode cX0_givenBy 101 = .ok (.iload 6, 2) := by decide +kernel
theorem dX0_givenBy_103 : decode cX0_givenBy 103 = .ok (.ireturn, 1) := by decide +kernel
theorem dX0_isFreeOfColour_0 : decode cX0_isFreeOfColour 0 = .ok (.aload_n 0, 1) := by decide +kernel
theorem dX0_isFreeOfColour_1 : decode cX0_isFreeOfColour 1 = .ok (.getfield 27, 3) := by decide +kernel
theorem dX0_isFreeOfColour_4 : decode cX0_isFreeOfColour 4 = .ok (.iload_n 1, 1) := by decide +kernel
theorem dX0_isFreeOfColour_5 : decode cX0_isFreeOfColour 5 = .ok (.iaload, 1) := by decide +kernel
theorem dX0_isFreeOfColour_6 : decode cX0_isFreeOfColour 6 = .ok (.iconst (-1), 1) := by decide +kernel
theorem dX0_isFreeOfColour_7 : decode cX0_isFreeOfColour 7 = .ok (.if_icmp .ne 32, 3) := by decide +kernel
theorem dX0_isFreeOfColour_10 : decode cX0_isFreeOfColour 10 = .ok (.aload_n 0, 1) := by decide +kernel
theorem dX0_isFreeOfColour_11 : decode cX0_isFreeOfColour 11 = .ok (.getfield 24, 3) := by decide +kernel
theorem dX0_isFreeOfColour_14 : decode cX0_isFreeOfColour 14 = .ok (.iload_n 1, 1) := by decide +kernel
theorem dX0_isFreeOfColour_15 : decode cX0_isFreeOfColour 15 = .ok (.iaload, 1) := by decide +kernel
theorem dX0_isFreeOfColour_16 : decode cX0_isFreeOfColour 16 = .ok (.iload_n 3, 1) := by decide +kernel
theorem dX0_isFreeOfColour_17 : decode cX0_isFreeOfColour 17 = .ok (.if_icmp .ne 22, 3) := by decide +kernel
theorem dX0_isFreeOfColour_20 : decode cX0_isFreeOfColour 20 = .ok (.aload_n 0, 1) := by decide +kernel
theorem dX0_isFreeOfColour_21 : decode cX0_isFreeOfColour 21 = .ok (.getfield 9, 3) := by decide +kernel
theorem dX0_isFreeOfColour_24 : decode cX0_isFreeOfColour 24 = .ok (.aload_n 0, 1) := by decide +kernel
theorem dX0_isFreeOfColour_25 : decode cX0_isFreeOfColour 25 = .ok (.getfield 21, 3) := by decide +kernel
theorem dX0_isFreeOfColour_28 : decode cX0_isFreeOfColour 28 = .ok (.iload_n 1, 1) := by decide +kernel
theorem dX0_isFreeOfColour_29 : decode cX0_isFreeOfColour 29 = .ok (.iaload, 1) := by decide +kernel
theorem dX0_isFreeOfColour_30 : decode cX0_isFreeOfColour 30 = .ok (.iaload, 1) := by decide +kernel
theorem dX0_isFreeOfColour_31 : decode cX0_isFreeOfColour 31 = .ok (.iload_n 2, 1) := by decide +kernel
theorem dX0_isFreeOfColour_32 : decode cX0_isFreeOfColour 32 = .ok (.if_icmp .ne 7, 3) := by decide +kernel
theorem dX0_isFreeOfColour_35 : decode cX0_isFreeOfColour 35 = .ok (.iconst 1, 1) := by decide +kernel
theorem dX0_isFreeOfColour_36 : decode cX0_isFreeOfColour 36 = .ok (.goto 4, 3) := by decide +kernel
theorem dX0_isFreeOfColour_39 : decode cX0_isFreeOfColour 39 = .ok (.iconst 0, 1) := by decide +kernel
theorem dX0_isFreeOfColour_40 : decode cX0_isFreeOfColour 40 = .ok (.ireturn, 1) := by decide +kernel
set_option maxRecDepth 20000 in
theorem ggX0_freeOfColour_X0_isFreeOfColour : GoodIn wsX0_freeOfColour wsX0_isFreeOfColour := goodIn_r _ [6, 7, 8, 9, 10, 11, 12, 13, 14, 15, 16, 17, 18, 19, 20, 21, 22, 23, 24, 25, 26] (by decide +kernel) (by decide +kernel)
set_option maxRecDepth 20000 in
theorem gX0_freeOfColour_X0_isFreeOfColour : GoodIn wsX0_freeOfColour (wsV RX0 219 RX0 yX0_isFreeOfColour wsX0_isFreeOfColour) := goodIn_app (goodIn_of _ (by decide +kernel)) ggX0_freeOfColour_X0_isFreeOfColour
theorem dX0_freeOfColour_0 : decode cX0_freeOfColour 0 = .ok (.iconst 0, 1) := by decide +kernel
theorem dX0_freeOfColour_1 : decode cX0_freeOfColour 1 = .ok (.istore_n 3, 1) := by decide +kernel
theorem dX0_freeOfColour_2 : decode cX0_freeOfColour 2 = .ok (.iconst 0, 1) := by decide +kernel
theorem dX0_freeOfColour_3 : decode cX0_freeOfColour 3 = .ok (.istore 4, 2) := by decide +kernel
theorem dX0_freeOfColour_5 : decode cX0_freeOfColour 5 = .ok (.iload 4, 2) := by decide +kernel
theorem dX0_freeOfColour_7 : decode cX0_freeOfColour 7 = .ok (.aload_n 0, 1) := by decide +kernel
theorem dX0_freeOfColour_8 : decode cX0_freeOfColour 8 = .ok (.getfield 107, 3) := by decide +kernel
theorem dX0_freeOfColour_11 : decode cX0_freeOfColour 11 = .ok (.if_icmp .ge 23, 3) := by decide +kernel
theorem dX0_freeOfColour_14 : decode cX0_freeOfColour 14 = .ok (.aload_n 0, 1) := by decide +kernel
theorem dX0_freeOfColour_15 : decode cX0_freeOfColour 15 = .ok (.iload 4, 2) := by decide +kernel
theorem dX0_freeOfColour_17 : decode cX0_freeOfColour 17 = .ok (.iload_n 1, 1) := by decide +kernel
theorem dX0_freeOfColour_18 : decode cX0_freeOfColour 18 = .ok (.iload_n 2, 1) := by decide +kernel
theorem dX0_freeOfColour_19 : decode cX0_freeOfColour 19 = .ok (.invokevirtual 219, 3) := by decide +kernel
theorem dX0_freeOfColour_22 : decode cX0_freeOfColour 22 = .ok (.ifCond .eq 6, 3) := by decide +kernel
theorem dX0_freeOfColour_25 : decode cX0_freeOfColour 25 = .ok (.iinc 3 1, 3) := by decide +kernel
theorem dX0_freeOfColour_28 : decode cX0_freeOfColour 28 = .ok (.iinc 4 1, 3) := by decide +kernel
theorem dX0_freeOfColour_31 : decode cX0_freeOfColour 31 = .ok (.goto (-26), 3) := by decide +kernel
theorem dX0_freeOfColour_34 : decode cX0_freeOfColour 34 = .ok (.iload_n 3, 1) := by decide +kernel
theorem dX0_freeOfColour_35 : decode cX0_freeOfColour 35 = .ok (.ireturn, 1) := by decide +kernel
theorem dX0_freeTranks_0 : decode cX0_freeTranks 0 = .ok (.iconst 0, 1) := by decide +kernel
theorem dX0_freeTranks_1 : decode cX0_freeTranks 1 = .ok (.istore_n 2, 1) := by decide +kernel
theorem dX0_freeTranks_2 : decode cX0_freeTranks 2 = .ok (.iconst 0, 1) := by decide +kernel
theorem dX0_freeTranks_3 : decode cX0_freeTranks 3 = .ok (.istore_n 3, 1) := by decide +kernel
theorem dX0_freeTranks_4 : decode cX0_freeTranks 4 = .ok (.iload_n 3, 1) := by decide +kernel
theorem dX0_freeTranks_5 : decode cX0_freeTranks 5 = .ok (.aload_n 0, 1) := by decide +kernel
theorem dX0_freeTranks_6 : decode cX0_freeTranks 6 = .ok (.getfield 107, 3) := by decide +kernel
theorem dX0_freeTranks_9 : decode cX0_freeTranks 9 = .ok (.if_icmp .ge 41, 3) := by decide +kernel
theorem dX0_freeTranks_12 : decode cX0_freeTranks 12 = .ok (.aload_n 0, 1) := by decide +kernel
theorem dX0_freeTranks_13 : decode cX0_freeTranks 13 = .ok (.getfield 27, 3) := by decide +kernel
theorem dX0_freeTranks_16 : decode cX0_freeTranks 16 = .ok (.iload_n 3, 1) := by decide +kernel
theorem dX0_freeTranks_17 : decode cX0_freeTranks 17 = .ok (.iaload, 1) := by decide +kernel
theorem dX0_freeTranks_18 : decode cX0_freeTranks 18 = .ok (.iconst (-1), 1) := by decide +kernel
theorem dX0_freeTranks_19 : decode cX0_freeTranks 19 = .ok (.if_icmp .ne 25, 3) := by decide +kernel
theorem dX0_freeTranks_22 : decode cX0_freeTranks 22 = .ok (.aload_n 0, 1) := by decide +kernel
theorem dX0_freeTranks_23 : decode cX0_freeTranks 23 = .ok (.getfield 24, 3) := by decide +kernel
theorem dX0_freeTranks_26 : decode cX0_freeTranks 26 = .ok (.iload_n 3, 1) := by decide +kernel
theorem dX0_freeTranks_27 : decode cX0_freeTranks 27 = .ok (.iaload, 1) := by decide +kernel
theorem dX0_freeTranks_28 : decode cX0_freeTranks 28 = .ok (.ifCond .ne 16, 3) := by decide +kernel
theorem dX0_freeTranks_31 : decode cX0_freeTranks 31 = .ok (.aload_n 0, 1) := by decide +kernel
theorem dX0_freeTranks_32 : decode cX0_freeTranks 32 = .ok (.getfield 21, 3) := by decide +kernel
theorem dX0_freeTranks_35 : decode cX0_freeTranks 35 = .ok (.iload_n 3, 1) := by decide +kernel
theorem dX0_freeTranks_36 : decode cX0_freeTranks 36 = .ok (.iaload, 1) := by decide +kernel
theorem dX0_freeTranks_37 : decode cX0_freeTranks 37 = .ok (.iload_n 1, 1) := by decide +kernel
theorem dX0_freeTranks_38 : decode cX0_freeTranks 38 = .ok (.if_icmp .ne 6, 3) := by decide +kernel
theorem dX0_freeTranks_41 : decode cX0_freeTranks 41 = .ok (.iinc 2 1, 3) := by decide +kernel
theorem dX0_freeTranks_44 : decode cX0_freeTranks 44 = .ok (.iinc 3 1, 3) := by decide +kernel
theorem dX0_freeTranks_47 : decode cX0_freeTranks 47 = .ok (.goto (-43), 3) := by decide +kernel
theorem dX0_freeTranks_50 : decode cX0_freeTranks 50 = .ok (.iload_n 2, 1) := by decide +kernel
theorem dX0_freeTranks_51 : decode cX0_freeTranks 51 = .ok (.ireturn, 1) := by decide +kernel
set_option maxRecDepth 20000 in
theorem ggX0_mostTranksOfOneSkin_X0_freeTranks : GoodIn wsX0_mostTranksOfOneSkin wsX0_freeTranks := goodIn_r _ [11, 12, 13, 14, 15, 16, 17, 18, 19, 20, 21, 22, 23, 24, 25, 26, 27, 28, 29, 30, 31] (by decide +kernel) (by decide +kernel)
set_option maxRecDepth 20000 in
theorem gX0_mostTranksOfOneSkin_X0_freeTranks : GoodIn wsX0_mostTranksOfOneSkin (wsV RX0 223 RX0 yX0_freeTranks wsX0_freeTranks) := goodIn_app (goodIn_of _ (by decide +kernel)) ggX0_mostTranksOfOneSkin_X0_freeTranks
theorem dX0_mostTranksOfOneSkin_0 : decode cX0_mostTranksOfOneSkin 0 = .ok (.iconst 0, 1) := by decide +kernel
theorem dX0_mostTranksOfOneSkin_1 : decode cX0_mostTranksOfOneSkin 1 = .ok (.istore_n 2, 1) := by decide +kernel
theorem dX0_mostTranksOfOneSkin_2 : decode cX0_mostTranksOfOneSkin 2 = .ok (.iconst 0, 1) := by decide +kernel
theorem dX0_mostTranksOfOneSkin_3 : decode cX0_mostTranksOfOneSkin 3 = .ok (.istore_n 3, 1) := by decide +kernel
theorem dX0_mostTranksOfOneSkin_4 : decode cX0_mostTranksOfOneSkin 4 = .ok (.iload_n 3, 1) := by decide +kernel
theorem dX0_mostTranksOfOneSkin_5 : decode cX0_mostTranksOfOneSkin 5 = .ok (.aload_n 0, 1) := by decide +kernel
theorem dX0_mostTranksOfOneSkin_6 : decode cX0_mostTranksOfOneSkin 6 = .ok (.getfield 56, 3) := by decide +kernel
theorem dX0_mostTranksOfOneSkin_9 : decode cX0_mostTranksOfOneSkin 9 = .ok (.if_icmp .ge 29, 3) := by decide +kernel
theorem dX0_mostTranksOfOneSkin_12 : decode cX0_mostTranksOfOneSkin 12 = .ok (.aload_n 0, 1) := by decide +kernel
theorem dX0_mostTranksOfOneSkin_13 : decode cX0_mostTranksOfOneSkin 13 = .ok (.getfield 9, 3) := by decide +kernel
theorem dX0_mostTranksOfOneSkin_16 : decode cX0_mostTranksOfOneSkin 16 = .ok (.iload_n 3, 1) := by decide +kernel
theorem dX0_mostTranksOfOneSkin_17 : decode cX0_mostTranksOfOneSkin 17 = .ok (.iaload, 1) := by decide +kernel
theorem dX0_mostTranksOfOneSkin_18 : decode cX0_mostTranksOfOneSkin 18 = .ok (.iload_n 1, 1) := by decide +kernel
theorem dX0_mostTranksOfOneSkin_19 : decode cX0_mostTranksOfOneSkin 19 = .ok (.if_icmp .ne 13, 3) := by decide +kernel
theorem dX0_mostTranksOfOneSkin_22 : decode cX0_mostTranksOfOneSkin 22 = .ok (.iload_n 2, 1) := by decide +kernel
theorem dX0_mostTranksOfOneSkin_23 : decode cX0_mostTranksOfOneSkin 23 = .ok (.aload_n 0, 1) := by decide +kernel
theorem dX0_mostTranksOfOneSkin_24 : decode cX0_mostTranksOfOneSkin 24 = .ok (.iload_n 3, 1) := by decide +kernel
theorem dX0_mostTranksOfOneSkin_25 : decode cX0_mostTranksOfOneSkin 25 = .ok (.invokevirtual 223, 3) := by decide +kernel
theorem dX0_mostTranksOfOneSkin_28 : decode cX0_mostTranksOfOneSkin 28 = .ok (.invokestatic 226, 3) := by decide +kernel
theorem dX0_mostTranksOfOneSkin_31 : decode cX0_mostTranksOfOneSkin 31 = .ok (.istore_n 2, 1) := by decide +kernel
theorem dX0_mostTranksOfOneSkin_32 : decode cX0_mostTranksOfOneSkin 32 = .ok (.iinc 3 1, 3) := by decide +kernel
theorem dX0_mostTranksOfOneSkin_35 : decode cX0_mostTranksOfOneSkin 35 = .ok (.goto (-31), 3) := by decide +kernel
theorem dX0_mostTranksOfOneSkin_38 : decode cX0_mostTranksOfOneSkin 38 = .ok (.iload_n 2, 1) := by decide +kernel
theorem dX0_mostTranksOfOneSkin_39 : decode cX0_mostTranksOfOneSkin 39 = .ok (.ireturn, 1) := by decide +kernel
theorem dX0_pairsFrom_0 : decode cX0_pairsFrom 0 = .ok (.getstatic 229, 3) := by decide +kernel
theorem dX0_pairsFrom_3 : decode cX0_pairsFrom 3 = .ok (.iload_n 1, 1) := by decide +kernel
theorem dX0_pairsFrom_4 : decode cX0_pairsFrom 4 = .ok (.iaload, 1) := by decide +kernel
theorem dX0_pairsFrom_5 : decode cX0_pairsFrom 5 = .ok (.istore_n 2, 1) := by decide +kernel
theorem dX0_pairsFrom_6 : decode cX0_pairsFrom 6 = .ok (.iload_n 2, 1) := by decide +kernel
theorem dX0_pairsFrom_7 : decode cX0_pairsFrom 7 = .ok (.ifCond .le 9, 3) := by decide +kernel
theorem dX0_pairsFrom_10 : decode cX0_pairsFrom 10 = .ok (.iload_n 0, 1) := by decide +kernel
theorem dX0_pairsFrom_11 : decode cX0_pairsFrom 11 = .ok (.iload_n 2, 1) := by decide +kernel
theorem dX0_pairsFrom_12 : decode cX0_pairsFrom 12 = .ok (.idiv, 1) := by decide +kernel
theorem dX0_pairsFrom_13 : decode cX0_pairsFrom 13 = .ok (.goto 4, 3) := by decide +kernel
theorem dX0_pairsFrom_16 : decode cX0_pairsFrom 16 = .ok (.iconst 0, 1) := by decide +kernel
theorem dX0_pairsFrom_17 : decode cX0_pairsFrom 17 = .ok (.ireturn, 1) := by decide +kernel
set_option maxRecDepth 20000 in
theorem ggX0_trankPairs_X0_freeTranks : GoodIn wsX0_trankPairs wsX0_freeTranks := goodIn_r _ [7, 8, 9, 10, 11, 16, 17, 18, 19, 20, 21, 22, 23, 24, 25, 26, 27, 28, 29, 30, 31] (by decide +kernel) (by decide +kernel)
set_option maxRecDepth 20000 in
theorem gX0_trankPairs_X0_freeTranks : GoodIn wsX0_trankPairs (wsV RX0 223 RX0 yX0_freeTranks wsX0_freeTranks) := goodIn_app (goodIn_of _ (by decide +kernel)) ggX0_trankPairs_X0_freeTranks
set_option maxRecDepth 20000 in
theorem ggX0_trankPairs_X0_pairsFrom : GoodIn wsX0_trankPairs wsX0_pairsFrom := goodIn_r _ [14, 15] (by decide +kernel) (by decide +kernel)
set_option maxRecDepth 20000 in
theorem gX0_trankPairs_X0_pairsFrom : GoodIn wsX0_trankPairs (va_wsS RX0 166 yX0_pairsFrom wsX0_pairsFrom) := goodIn_app (goodIn_of _ (by decide +kernel)) ggX0_trankPairs_X0_pairsFrom
theorem dX0_trankPairs_0 : decode cX0_trankPairs 0 = .ok (.iconst 0, 1) := by decide +kernel
theorem dX0_trankPairs_1 : decode cX0_trankPairs 1 = .ok (.istore_n 2, 1) := by decide +kernel
theorem dX0_trankPairs_2 : decode cX0_trankPairs 2 = .ok (.iconst 0, 1) := by decide +kernel
theorem dX0_trankPairs_3 : decode cX0_trankPairs 3 = .ok (.istore_n 3, 1) := by decide +kernel
theorem dX0_trankPairs_4 : decode cX0_trankPairs 4 = .ok (.iload_n 3, 1) := by decide +kernel
theorem dX0_trankPairs_5 : decode cX0_trankPairs 5 = .ok (.aload_n 0, 1) := by decide +kernel
theorem dX0_trankPairs_6 : decode cX0_trankPairs 6 = .ok (.getfield 56, 3) := by decide +kernel
theorem dX0_trankPairs_9 : decode cX0_trankPairs 9 = .ok (.if_icmp .ge 31, 3) := by decide +kernel
theorem dX0_trankPairs_12 : decode cX0_trankPairs 12 = .ok (.aload_n 0, 1) := by decide +kernel
theorem dX0_trankPairs_13 : decode cX0_trankPairs 13 = .ok (.getfield 9, 3) := by decide +kernel
theorem dX0_trankPairs_16 : decode cX0_trankPairs 16 = .ok (.iload_n 3, 1) := by decide +kernel
theorem dX0_trankPairs_17 : decode cX0_trankPairs 17 = .ok (.iaload, 1) := by decide +kernel
theorem dX0_trankPairs_18 : decode cX0_trankPairs 18 = .ok (.iload_n 1, 1) := by decide +kernel
theorem dX0_trankPairs_19 : decode cX0_trankPairs 19 = .ok (.if_icmp .ne 15, 3) := by decide +kernel
theorem dX0_trankPairs_22 : decode cX0_trankPairs 22 = .ok (.iload_n 2, 1) := by decide +kernel
theorem dX0_trankPairs_23 : decode cX0_trankPairs 23 = .ok (.aload_n 0, 1) := by decide +kernel
theorem dX0_trankPairs_24 : decode cX0_trankPairs 24 = .ok (.iload_n 3, 1) := by decide +kernel
theorem dX0_trankPairs_25 : decode cX0_trankPairs 25 = .ok (.invokevirtual 223, 3) := by decide +kernel
theorem dX0_trankPairs_28 : decode cX0_trankPairs 28 = .ok (.iconst 0, 1) := by decide +kernel
theorem dX0_trankPairs_29 : decode cX0_trankPairs 29 = .ok (.invokestatic 166, 3) := by decide +kernel
theorem dX0_trankPairs_32 : decode cX0_trankPairs 32 = .ok (.iadd, 1) := by decide +kernel
theorem dX0_trankPairs_33 : decode cX0_trankPairs 33 = .ok (.istore_n 2, 1) := by decide +kernel
theorem dX0_trankPairs_34 : decode cX0_trankPairs 34 = .ok (.iinc 3 1, 3) := by decide +kernel
theorem dX0_trankPairs_37 : decode cX0_trankPairs 37 = .ok (.goto (-33), 3) := by decide +kernel
theorem dX0_trankPairs_40 : decode cX0_trankPairs 40 = .ok (.iload_n 2, 1) := by decide +kernel
theorem dX0_trankPairs_41 : decode cX0_trankPairs 41 = .ok (.ireturn, 1) := by decide +kernel
set_option maxRecDepth 20000 in
theorem ggX0_lacking_X0_mostTranksOfOneSkin : GoodIn wsX0_lacking wsX0_mostTranksOfOneSkin := goodIn_r _ [10, 11, 12, 2, 3, 4, 5, 13, 14, 15, 9, 16, 17, 18, 19, 20, 29, 30, 31, 32, 33, 34, 35, 36, 37, 38, 39, 40, 41, 42, 43, 44] (by decide +kernel) (by decide +kernel)
set_option maxRecDepth 20000 in
theorem gX0_lacking_X0_mostTranksOfOneSkin : GoodIn wsX0_lacking (wsV RX0 232 RX0 yX0_mostTranksOfOneSkin wsX0_mostTranksOfOneSkin) := goodIn_app (goodIn_of _ (by decide +kernel)) ggX0_lacking_X0_mostTranksOfOneSkin
set_option maxRecDepth 20000 in
theorem ggX0_lacking_X0_freeOfColour : GoodIn wsX0_lacking wsX0_freeOfColour := goodIn_r _ [24, 17, 25, 26, 27, 9, 28, 18, 19, 12, 20, 29, 30, 31, 32, 33, 34, 35, 36, 37, 38, 39, 40, 41, 42, 43, 44] (by decide +kernel) (by decide +kernel)
set_option maxRecDepth 20000 in
theorem gX0_lacking_X0_freeOfColour : GoodIn wsX0_lacking (wsV RX0 163 RX0 yX0_freeOfColour wsX0_freeOfColour) := goodIn_app (goodIn_of _ (by decide +kernel)) ggX0_lacking_X0_freeOfColour
theorem dX0_lacking_0 : decode cX0_lacking 0 = .ok (.iload_n 2, 1) := by decide +kernel
theorem dX0_lacking_1 : decode cX0_lacking 1 = .ok (.ifCond .ne 11, 3) := by decide +kernel
theorem dX0_lacking_4 : decode cX0_lacking 4 = .ok (.aload_n 0, 1) := by decide +kernel
theorem dX0_lacking_5 : decode cX0_lacking 5 = .ok (.iload_n 1, 1) := by decide +kernel
theorem dX0_lacking_6 : decode cX0_lacking 6 = .ok (.invokevirtual 232, 3) := by decide +kernel
theorem dX0_lacking_9 : decode cX0_lacking 9 = .ok (.goto 9, 3) := by decide +kernel
theorem dX0_lacking_12 : decode cX0_lacking 12 = .ok (.aload_n 0, 1) := by decide +kernel
theorem dX0_lacking_13 : decode cX0_lacking 13 = .ok (.iload_n 1, 1) := by decide +kernel
theorem dX0_lacking_14 : decode cX0_lacking 14 = .ok (.iload_n 2, 1) := by decide +kernel
theorem dX0_lacking_15 : decode cX0_lacking 15 = .ok (.invokevirtual 163, 3) := by decide +kernel
theorem dX0_lacking_18 : decode cX0_lacking 18 = .ok (.istore_n 3, 1) := by decide +kernel
theorem dX0_lacking_19 : decode cX0_lacking 19 = .ok (.iconst 0, 1) := by decide +kernel
theorem dX0_lacking_20 : decode cX0_lacking 20 = .ok (.getstatic 229, 3) := by decide +kernel
theorem dX0_lacking_23 : decode cX0_lacking 23 = .ok (.iload_n 2, 1) := by decide +kernel
theorem dX0_lacking_24 : decode cX0_lacking 24 = .ok (.iaload, 1) := by decide +kernel
theorem dX0_lacking_25 : decode cX0_lacking 25 = .ok (.iload_n 3, 1) := by decide +kernel
theorem dX0_lacking_26 : decode cX0_lacking 26 = .ok (.isub, 1) := by decide +kernel
theorem dX0_lacking_27 : decode cX0_lacking 27 = .ok (.invokestatic 226, 3) := by decide +kernel
theorem dX0_lacking_30 : decode cX0_lacking 30 = .ok (.ireturn, 1) := by decide +kernel
set_option maxRecDepth 20000 in
theorem ggX0_firstSkinWithTranks_X0_freeTranks : GoodIn wsX0_firstSkinWithTranks wsX0_freeTranks := goodIn_r _ [8, 9, 10, 11, 12, 13, 14, 15, 16, 17, 18, 19, 20, 21, 22, 23, 24, 25, 26, 27, 28] (by decide +kernel) (by decide +kernel)
set_option maxRecDepth 20000 in
theorem gX0_firstSkinWithTranks_X0_freeTranks : GoodIn wsX0_firstSkinWithTranks (wsV RX0 223 RX0 yX0_freeTranks wsX0_freeTranks) := goodIn_app (goodIn_of _ (by decide +kernel)) ggX0_firstSkinWithTranks_X0_freeTranks
theorem dX0_firstSkinWithTranks_0 : decode cX0_firstSkinWithTranks 0 = .ok (.iconst 0, 1) := by decide +kernel
theorem dX0_firstSkinWithTranks_1 : decode cX0_firstSkinWithTranks 1 = .ok (.istore_n 2, 1) := by decide +kernel
theorem dX0_firstSkinWithTranks_2 : decode cX0_firstSkinWithTranks 2 = .ok (.iload_n 2, 1) := by decide +kernel
theorem dX0_firstSkinWithTranks_3 : decode cX0_firstSkinWithTranks 3 = .ok (.aload_n 0, 1) := by decide +kernel
theorem dX0_firstSkinWithTranks_4 : decode cX0_firstSkinWithTranks 4 = .ok (.getfield 56, 3) := by decide +kernel
theorem dX0_firstSkinWithTranks_7 : decode cX0_firstSkinWithTranks 7 = .ok (.if_icmp .ge 34, 3) := by decide +kernel
theorem dX0_firstSkinWithTranks_10 : decode cX0_firstSkinWithTranks 10 = .ok (.aload_n 0, 1) := by decide +kernel
theorem dX0_firstSkinWithTranks_11 : decode cX0_firstSkinWithTranks 11 = .ok (.getfield 9, 3) := by decide +kernel
theorem dX0_firstSkinWithTranks_14 : decode cX0_firstSkinWithTranks 14 = .ok (.iload_n 2, 1) := by decide +kernel
theorem dX0_firstSkinWithTranks_15 : decode cX0_firstSkinWithTranks 15 = .ok (.iaload, 1) := by decide +kernel
theorem dX0_firstSkinWithTranks_16 : decode cX0_firstSkinWithTranks 16 = .ok (.iload_n 1, 1) := by decide +kernel
theorem dX0_firstSkinWithTranks_17 : decode cX0_firstSkinWithTranks 17 = .ok (.if_icmp .ne 18, 3) := by decide +kernel
theorem dX0_firstSkinWithTranks_20 : decode cX0_firstSkinWithTranks 20 = .ok (.aload_n 0, 1) := by decide +kernel
theorem dX0_firstSkinWithTranks_21 : decode cX0_firstSkinWithTranks 21 = .ok (.iload_n 2, 1) := by decide +kernel
theorem dX0_firstSkinWithTranks_22 : decode cX0_firstSkinWithTranks 22 = .ok (.invokevirtual 223, 3) := by decide +kernel
theorem dX0_firstSkinWithTranks_25 : decode cX0_firstSkinWithTranks 25 = .ok (.getstatic 229, 3) := by decide +kernel
theorem dX0_firstSkinWithTranks_28 : decode cX0_firstSkinWithTranks 28 = .ok (.iconst 0, 1) := by decide +kernel
theorem dX0_firstSkinWithTranks_29 : decode cX0_firstSkinWithTranks 29 = .ok (.iaload, 1) := by decide +kernel
theorem dX0_firstSkinWithTranks_30 : decode cX0_firstSkinWithTranks 30 = .ok (.if_icmp .lt 5, 3) := by decide +kernel
theorem dX0_firstSkinWithTranks_33 : decode cX0_firstSkinWithTranks 33 = .ok (.iload_n 2, 1) := by decide +kernel
theorem dX0_firstSkinWithTranks_34 : decode cX0_firstSkinWithTranks 34 = .ok (.ireturn, 1) := by decide +kernel
theorem dX0_firstSkinWithTranks_35 : decode cX0_firstSkinWithTranks 35 = .ok (.iinc 2 1, 3) := by decide +kernel
theorem dX0_firstSkinWithTranks_38 : decode cX0_firstSkinWithTranks 38 = .ok (.goto (-36), 3) := by decide +kernel
theorem dX0_firstSkinWithTranks_41 : decode cX0_firstSkinWithTranks 41 = .ok (.iconst (-1), 1) := by decide +kernel
theorem dX0_firstSkinWithTranks_42 : decode cX0_firstSkinWithTranks 42 = .ok (.ireturn, 1) := by decide +kernel
set_option maxRecDepth 20000 in
theorem ggX0_enterPair_X0_firstSkinWithTranks : GoodIn wsX0_enterPair wsX0_firstSkinWithTranks := goodIn_r _ [15, 16, 17, 4, 18, 19, 20, 14, 21, 5, 7, 22, 6, 34, 35, 36, 37, 38, 39, 40, 41, 42, 43, 44, 45, 46, 47, 48, 49] (by decide +kernel) (by decide +kernel)
set_option maxRecDepth 20000 in
theorem gX0_enterPair_X0_firstSkinWithTranks : GoodIn wsX0_enterPair (wsV RX0 235 RX0 yX0_firstSkinWithTranks wsX0_firstSkinWithTranks) := goodIn_app (goodIn_of _ (by decide +kernel)) ggX0_enterPair_X0_firstSkinWithTranks
set_option maxRecDepth 20000 in
theorem ggX0_enterPair_X0_isFreeOfColour : GoodIn wsX0_enterPair wsX0_isFreeOfColour := goodIn_r _ [26, 7, 22, 17, 6, 34, 35, 36, 37, 38, 39, 40, 41, 42, 43, 44, 45, 46, 47, 48, 49] (by decide +kernel) (by decide +kernel)
set_option maxRecDepth 20000 in
theorem gX0_enterPair_X0_isFreeOfColour : GoodIn wsX0_enterPair (wsV RX0 219 RX0 yX0_isFreeOfColour wsX0_isFreeOfColour) := goodIn_app (goodIn_of _ (by decide +kernel)) ggX0_enterPair_X0_isFreeOfColour
set_option maxRecDepth 20000 in
theorem ggX0_enterPair_J6_bitCount_0f7a4 : GoodIn wsX0_enterPair wsJ6_bitCount_0f7a4 := goodIn_r _ [30, 31, 32, 33] (by decide +kernel) (by decide +kernel)
set_option maxRecDepth 20000 in
theorem gX0_enterPair_J6_bitCount_0f7a4 : GoodIn wsX0_enterPair (va_wsS RX0 238 yJ6_bitCount_0f7a4 wsJ6_bitCount_0f7a4) := goodIn_app (goodIn_of _ (by decide +kernel)) ggX0_enterPair_J6_bitCount_0f7a4
theorem dX0_enterPair_0 : decode cX0_enterPair 0 = .ok (.aload_n 0, 1) := by decide +kernel
theorem dX0_enterPair_1 : decode cX0_enterPair 1 = .ok (.iload_n 1, 1) := by decide +kernel
theorem dX0_enterPair_2 : decode cX0_enterPair 2 = .ok (.invokevirtual 235, 3) := by decide +kernel
theorem dX0_enterPair_5 : decode cX0_enterPair 5 = .ok (.istore_n 2, 1) := by decide +kernel
theorem dX0_enterPair_6 : decode cX0_enterPair 6 = .ok (.aload_n 0, 1) := by decide +kernel
theorem dX0_enterPair_7 : decode cX0_enterPair 7 = .ok (.getfield 33, 3) := by decide +kernel
theorem dX0_enterPair_10 : decode cX0_enterPair 10 = .ok (.aload_n 0, 1) := by decide +kernel
theorem dX0_enterPair_11 : decode cX0_enterPair 11 = .ok (.getfield 136, 3) := by decide +kernel
theorem dX0_enterPair_14 : decode cX0_enterPair 14 = .ok (.iload_n 1, 1) := by decide +kernel
theorem dX0_enterPair_15 : decode cX0_enterPair 15 = .ok (.iastore, 1) := by decide +kernel
theorem dX0_enterPair_16 : decode cX0_enterPair 16 = .ok (.aload_n 0, 1) := by decide +kernel
theorem dX0_enterPair_17 : decode cX0_enterPair 17 = .ok (.getfield 36, 3) := by decide +kernel
theorem dX0_enterPair_20 : decode cX0_enterPair 20 = .ok (.aload_n 0, 1) := by decide +kernel
theorem dX0_enterPair_21 : decode cX0_enterPair 21 = .ok (.getfield 136, 3) := by decide +kernel
theorem dX0_enterPair_24 : decode cX0_enterPair 24 = .ok (.iload_n 2, 1) := by decide +kernel
theorem dX0_enterPair_25 : decode cX0_enterPair 25 = .ok (.iastore, 1) := by decide +kernel
theorem dX0_enterPair_26 : decode cX0_enterPair 26 = .ok (.iconst 0, 1) := by decide +kernel
theorem dX0_enterPair_27 : decode cX0_enterPair 27 = .ok (.istore_n 3, 1) := by decide +kernel
theorem dX0_enterPair_28 : decode cX0_enterPair 28 = .ok (.iconst 0, 1) := by decide +kernel
theorem dX0_enterPair_29 : decode cX0_enterPair 29 = .ok (.istore 4, 2) := by decide +kernel
theorem dX0_enterPair_31 : decode cX0_enterPair 31 = .ok (.iload 4, 2) := by decide +kernel
theorem dX0_enterPair_33 : decode cX0_enterPair 33 = .ok (.iconst 4, 1) := by decide +kernel
theorem dX0_enterPair_34 : decode cX0_enterPair 34 = .ok (.if_icmp .ge 125, 3) := by decide +kernel
theorem dX0_enterPair_37 : decode cX0_enterPair 37 = .ok (.getstatic 229, 3) := by decide +kernel
theorem dX0_enterPair_40 : decode cX0_enterPair 40 = .ok (.iload 4, 2) := by decide +kernel
theorem dX0_enterPair_42 : decode cX0_enterPair 42 = .ok (.iaload, 1) := by decide +kernel
theorem dX0_enterPair_43 : decode cX0_enterPair 43 = .ok (.istore 5, 2) := by decide +kernel
theorem dX0_enterPair_45 : decode cX0_enterPair 45 = .ok (.iconst 0, 1) := by decide +kernel
theorem dX0_enterPair_46 : decode cX0_enterPair 46 = .ok (.istore 6, 2) := by decide +kernel
theorem dX0_enterPair_48 : decode cX0_enterPair 48 = .ok (.iload 6, 2) := by decide +kernel
theorem dX0_enterPair_50 : decode cX0_enterPair 50 = .ok (.aload_n 0, 1) := by decide +kernel
theorem dX0_enterPair_51 : decode cX0_enterPair 51 = .ok (.getfield 107, 3) := by decide +kernel
theorem dX0_enterPair_54 : decode cX0_enterPair 54 = .ok (.if_icmp .ge 99, 3) := by decide +kernel
theorem dX0_enterPair_57 : decode cX0_enterPair 57 = .ok (.iload 5, 2) := by decide +kernel
theorem dX0_enterPair_59 : decode cX0_enterPair 59 = .ok (.ifCond .le 94, 3) := by decide +kernel
theorem dX0_enterPair_62 : decode cX0_enterPair 62 = .ok (.iload 4, 2) := by decide +kernel
theorem dX0_enterPair_64 : decode cX0_enterPair 64 = .ok (.ifCond .ne 14, 3) := by decide +kernel
theorem dX0_enterPair_67 : decode cX0_enterPair 67 = .ok (.aload_n 0, 1) := by decide +kernel
theorem dX0_enterPair_68 : decode cX0_enterPair 68 = .ok (.getfield 21, 3) := by decide +kernel
theorem dX0_enterPair_71 : decode cX0_enterPair 71 = .ok (.iload 6, 2) := by decide +kernel
theorem dX0_enterPair_73 : decode cX0_enterPair 73 = .ok (.iaload, 1) := by decide +kernel
theorem dX0_enterPair_74 : decode cX0_enterPair 74 = .ok (.iload_n 2, 1) := by decide +kernel
theorem dX0_enterPair_75 : decode cX0_enterPair 75 = .ok (.if_icmp .ne 7, 3) := by decide +kernel
theorem dX0_enterPair_78 : decode cX0_enterPair 78 = .ok (.iconst 1, 1) := by decide +kernel
theorem dX0_enterPair_79 : decode cX0_enterPair 79 = .ok (.goto 4, 3) := by decide +kernel
theorem dX0_enterPair_82 : decode cX0_enterPair 82 = .ok (.iconst 0, 1) := by decide +kernel
theorem dX0_enterPair_83 : decode cX0_enterPair 83 = .ok (.istore 7, 2) := by decide +kernel
theorem dX0_enterPair_85 : decode cX0_enterPair 85 = .ok (.iload 7, 2) := by decide +kernel
theorem dX0_enterPair_87 : decode cX0_enterPair 87 = .ok (.ifCond .eq 60, 3) := by decide +kernel
theorem dX0_enterPair_90 : decode cX0_enterPair 90 = .ok (.aload_n 0, 1) := by decide +kernel
theorem dX0_enterPair_91 : decode cX0_enterPair 91 = .ok (.iload 6, 2) := by decide +kernel
theorem dX0_enterPair_93 : decode cX0_enterPair 93 = .ok (.iload_n 1, 1) := by decide +kernel
theorem dX0_enterPair_94 : decode cX0_enterPair 94 = .ok (.iload 4, 2) := by decide +kernel
theorem dX0_enterPair_96 : decode cX0_enterPair 96 = .ok (.invokevirtual 219, 3) := by decide +kernel
theorem dX0_enterPair_99 : decode cX0_enterPair 99 = .ok (.ifCond .eq 48, 3) := by decide +kernel
theorem dX0_enterPair_102 : decode cX0_enterPair 102 = .ok (.aload_n 0, 1) := by decide +kernel
theorem dX0_enterPair_103 : decode cX0_enterPair 103 = .ok (.getfield 27, 3) := by decide +kernel
theorem dX0_enterPair_106 : decode cX0_enterPair 106 = .ok (.iload 6, 2) := by decide +kernel
theorem dX0_enterPair_108 : decode cX0_enterPair 108 = .ok (.aload_n 0, 1) := by decide +kernel
theorem dX0_enterPair_109 : decode cX0_enterPair 109 = .ok (.getfield 136, 3) := by decide +kernel
theorem dX0_enterPair_112 : decode cX0_enterPair 112 = .ok (.iastore, 1) := by decide +kernel
theorem dX0_enterPair_113 : decode cX0_enterPair 113 = .ok (.aload_n 0, 1) := by decide +kernel
theorem dX0_enterPair_114 : decode cX0_enterPair 114 = .ok (.getfield 42, 3) := by decide +kernel
theorem dX0_enterPair_117 : decode cX0_enterPair 117 = .ok (.aload_n 0, 1) := by decide +kernel
theorem dX0_enterPair_118 : decode cX0_enterPair 118 = .ok (.getfield 136, 3) := by decide +kernel
theorem dX0_enterPair_121 : decode cX0_enterPair 121 = .ok (.dup2, 1) := by decide +kernel
theorem dX0_enterPair_122 : decode cX0_enterPair 122 = .ok (.iaload, 1) := by decide +kernel
theorem dX0_enterPair_123 : decode cX0_enterPair 123 = .ok (.aload_n 0, 1) := by decide +kernel
theorem dX0_enterPair_124 : decode cX0_enterPair 124 = .ok (.getfield 30, 3) := by decide +kernel
theorem dX0_enterPair_127 : decode cX0_enterPair 127 = .ok (.iload 6, 2) := by decide +kernel
theorem dX0_enterPair_129 : decode cX0_enterPair 129 = .ok (.iaload, 1) := by decide +kernel
theorem dX0_enterPair_130 : decode cX0_enterPair 130 = .ok (.iadd, 1) := by decide +kernel
theorem dX0_enterPair_131 : decode cX0_enterPair 131 = .ok (.iastore, 1) := by decide +kernel
theorem dX0_enterPair_132 : decode cX0_enterPair 132 = .ok (.iload_n 3, 1) := by decide +kernel
theorem dX0_enterPair_133 : decode cX0_enterPair 133 = .ok (.iconst 1, 1) := by decide +kernel
theorem dX0_enterPair_134 : decode cX0_enterPair 134 = .ok (.aload_n 0, 1) := by decide +kernel
theorem dX0_enterPair_135 : decode cX0_enterPair 135 = .ok (.getfield 21, 3) := by decide +kernel
theorem dX0_enterPair_138 : decode cX0_enterPair 138 = .ok (.iload 6, 2) := by decide +kernel
theorem dX0_enterPair_140 : decode cX0_enterPair 140 = .ok (.iaload, 1) := by decide +kernel
theorem dX0_enterPair_141 : decode cX0_enterPair 141 = .ok (.ishl, 1) := by decide +kernel
theorem dX0_enterPair_142 : decode cX0_enterPair 142 = .ok (.ior, 1) := by decide +kernel
theorem dX0_enterPair_143 : decode cX0_enterPair 143 = .ok (.istore_n 3, 1) := by decide +kernel
theorem dX0_enterPair_144 : decode cX0_enterPair 144 = .ok (.iinc 5 (-1), 3) := by decide +kernel
theorem dX0_enterPair_147 : decode cX0_enterPair 147 = .ok (.iinc 6 1, 3) := by decide +kernel
theorem dX0_enterPair_150 : decode cX0_enterPair 150 = .ok (.goto (-102), 3) := by decide +kernel
theorem dX0_enterPair_153 : decode cX0_enterPair 153 = .ok (.iinc 4 1, 3) := by decide +kernel
theorem dX0_enterPair_156 : decode cX0_enterPair 156 = .ok (.goto (-125), 3) := by decide +kernel
theorem dX0_enterPair_159 : decode cX0_enterPair 159 = .ok (.aload_n 0, 1) := by decide +kernel
theorem dX0_enterPair_160 : decode cX0_enterPair 160 = .ok (.getfield 39, 3) := by decide +kernel
theorem dX0_enterPair_163 : decode cX0_enterPair 163 = .ok (.aload_n 0, 1) := by decide +kernel
theorem dX0_enterPair_164 : decode cX0_enterPair 164 = .ok (.getfield 136, 3) := by decide +kernel
theorem dX0_enterPair_167 : decode cX0_enterPair 167 = .ok (.iload_n 3, 1) := by decide +kernel
theorem dX0_enterPair_168 : decode cX0_enterPair 168 = .ok (.invokestatic 238, 3) := by decide +kernel
theorem dX0_enterPair_171 : decode cX0_enterPair 171 = .ok (.iastore, 1) := by decide +kernel
theorem dX0_enterPair_172 : decode cX0_enterPair 172 = .ok (.aload_n 0, 1) := by decide +kernel
theorem dX0_enterPair_173 : decode cX0_enterPair 173 = .ok (.dup, 1) := by decide +kernel
theorem dX0_enterPair_174 : decode cX0_enterPair 174 = .ok (.getfield 136, 3) := by decide +kernel
theorem dX0_enterPair_177 : decode cX0_enterPair 177 = .ok (.iconst 1, 1) := by decide +kernel
theorem dX0_enterPair_178 : decode cX0_enterPair 178 = .ok (.iadd, 1) := by decide +kernel
theorem dX0_enterPair_179 : decode cX0_enterPair 179 = .ok (.putfield 136, 3) := by decide +kernel
theorem dX0_enterPair_182 : decode cX0_enterPair 182 = .ok (.return_, 1) := by decide +kernel
end
section
theorem dX1_init_0 : decode cX1_init 0 = .ok (.aload_n 0, 1) := by decide +kernel
theorem dX1_init_1 : decode cX1_init 1 = .ok (.invokespecial 3, 3) := by decide +kernel
theorem dX1_init_4 : decode cX1_init 4 = .ok (.aload_n 0, 1) := by decide +kernel
theorem dX1_init_5 : decode cX1_init 5 = .ok (.bipush 10, 2) := by decide +kernel
theorem dX1_init_7 : decode cX1_init 7 = .ok (.newarray .int, 2) := by decide +kernel
theorem dX1_init_9 : decode cX1_init 9 = .ok (.putfield 9, 3) := by decide +kernel
theorem dX1_init_12 : decode cX1_init 12 = .ok (.aload_n 0, 1) := by decide +kernel
theorem dX1_init_13 : decode cX1_init 13 = .ok (.sipush 960, 3) := by decide +kernel
theorem dX1_init_16 : decode cX1_init 16 = .ok (.newarray .int, 2) := by decide +kernel
theorem dX1_init_18 : decode cX1_init 18 = .ok (.putfield 13, 3) := by decide +kernel
theorem dX1_init_21 : decode cX1_init 21 = .ok (.aload_n 0, 1) := by decide +kernel
theorem dX1_init_22 : decode cX1_init 22 = .ok (.sipush 150, 3) := by decide +kernel
theorem dX1_init_25 : decode cX1_init 25 = .ok (.newarray .int, 2) := by decide +kernel
theorem dX1_init_27 : decode cX1_init 27 = .ok (.putfield 16, 3) := by decide +kernel
theorem dX1_init_30 : decode cX1_init 30 = .ok (.aload_n 0, 1) := by decide +kernel
theorem dX1_init_31 : decode cX1_init 31 = .ok (.sipush 150, 3) := by decide +kernel
theorem dX1_init_34 : decode cX1_init 34 = .ok (.newarray .int, 2) := by decide +kernel
theorem dX1_init_36 : decode cX1_init 36 = .ok (.putfield 19, 3) := by decide +kernel
theorem dX1_init_39 : decode cX1_init 39 = .ok (.aload_n 0, 1) := by decide +kernel
theorem dX1_init_40 : decode cX1_init 40 = .ok (.sipush 150, 3) := by decide +kernel
theorem dX1_init_43 : decode cX1_init 43 = .ok (.newarray .int, 2) := by decide +kernel
theorem dX1_init_45 : decode cX1_init 45 = .ok (.putfield 22, 3) := by decide +kernel
theorem dX1_init_48 : decode cX1_init 48 = .ok (.aload_n 0, 1) := by decide +kernel
theorem dX1_init_49 : decode cX1_init 49 = .ok (.sipush 150, 3) := by decide +kernel
theorem dX1_init_52 : decode cX1_init 52 = .ok (.newarray .int, 2) := by decide +kernel
theorem dX1_init_54 : decode cX1_init 54 = .ok (.putfield 25, 3) := by decide +kernel
theorem dX1_init_57 : decode cX1_init 57 = .ok (.aload_n 0, 1) := by decide +kernel
theorem dX1_init_58 : decode cX1_init 58 = .ok (.bipush 100, 2) := by decide +kernel
theorem dX1_init_60 : decode cX1_init 60 = .ok (.newarray .int, 2) := by decide +kernel
theorem dX1_init_62 : decode cX1_init 62 = .ok (.putfield 28, 3) := by decide +kernel
theorem dX1_init_65 : decode cX1_init 65 = .ok (.aload_n 0, 1) := by decide +kernel
theorem dX1_init_66 : decode cX1_init 66 = .ok (.bipush 96, 2) := by decide +kernel
theorem dX1_init_68 : decode cX1_init 68 = .ok (.newarray .int, 2) := by decide +kernel
theorem dX1_init_70 : decode cX1_init 70 = .ok (.putfield 31, 3) := by decide +kernel
theorem dX1_init_73 : decode cX1_init 73 = .ok (.return_, 1) := by decide +kernel
theorem dX1_thrown_0 : decode cX1_thrown 0 = .ok (.aload_n 0, 1) := by decide +kernel
theorem dX1_thrown_1 : decode cX1_thrown 1 = .ok (.getfield 34, 3) := by decide +kernel
theorem dX1_thrown_4 : decode cX1_thrown 4 = .ok (.ireturn, 1) := by decide +kernel
theorem dX1_no_0 : decode cX1_no 0 = .ok (.aload_n 0, 1) := by decide +kernel
theorem dX1_no_1 : decode cX1_no 1 = .ok (.iload_n 1, 1) := by decide +kernel
theorem dX1_no_2 : decode cX1_no 2 = .ok (.putfield 34, 3) := by decide +kernel
theorem dX1_no_5 : decode cX1_no 5 = .ok (.iconst 0, 1) := by decide +kernel
theorem dX1_no_6 : decode cX1_no 6 = .ok (.ireturn, 1) := by decide +kernel
theorem dX1_isIn_0 : decode cX1_isIn 0 = .ok (.iload_n 0, 1) := by decide +kernel
theorem dX1_isIn_1 : decode cX1_isIn 1 = .ok (.iload_n 1, 1) := by decide +kernel
theorem dX1_isIn_2 : decode cX1_isIn 2 = .ok (.if_icmp .lt 12, 3) := by decide +kernel
theorem dX1_isIn_5 : decode cX1_isIn 5 = .ok (.iload_n 0, 1) := by decide +kernel
theorem dX1_isIn_6 : decode cX1_isIn 6 = .ok (.iload_n 2, 1) := by decide +kernel
theorem dX1_isIn_7 : decode cX1_isIn 7 = .ok (.if_icmp .gt 7, 3) := by decide +kernel
theorem dX1_isIn_10 : decode cX1_isIn 10 = .ok (.iconst 1, 1) := by decide +kernel
theorem dX1_isIn_11 : decode cX1_isIn 11 = .ok (.goto 4, 3) := by decide +kernel
theorem dX1_isIn_14 : decode cX1_isIn 14 = .ok (.iconst 0, 1) := by decide +kernel
theorem dX1_isIn_15 : decode cX1_isIn 15 = .ok (.ireturn, 1) := by decide +kernel
set_option maxRecDepth 20000 in
theorem ggX1_isSkin_X1_isIn : GoodIn wsX1_isSkin wsX1_isIn := goodIn_r _ [5] (by decide +kernel) (by decide +kernel)
set_option maxRecDepth 20000 in
theorem gX1_isSkin_X1_isIn : GoodIn wsX1_isSkin (va_wsS RX1 41 yX1_isIn wsX1_isIn) := goodIn_app (goodIn_of _ (by decide +kernel)) ggX1_isSkin_X1_isIn
theorem dX1_isSkin_0 : decode cX1_isSkin 0 = .ok (.iload_n 1, 1) := by decide +kernel
theorem dX1_isSkin_1 : decode cX1_isSkin 1 = .ok (.iconst 0, 1) := by decide +kernel
theorem dX1_isSkin_2 : decode cX1_isSkin 2 = .ok (.aload_n 0, 1) := by decide +kernel
theorem dX1_isSkin_3 : decode cX1_isSkin 3 = .ok (.getfield 38, 3) := by decide +kernel
theorem dX1_isSkin_6 : decode cX1_isSkin 6 = .ok (.iconst 1, 1) := by decide +kernel
theorem dX1_isSkin_7 : decode cX1_isSkin 7 = .ok (.isub, 1) := by decide +kernel
theorem dX1_isSkin_8 : decode cX1_isSkin 8 = .ok (.invokestatic 41, 3) := by decide +kernel
theorem dX1_isSkin_11 : decode cX1_isSkin 11 = .ok (.ireturn, 1) := by decide +kernel
set_option maxRecDepth 20000 in
theorem ggX1_isKind_X1_isIn : GoodIn wsX1_isKind wsX1_isIn := goodIn_r _ [4] (by decide +kernel) (by decide +kernel)
set_option maxRecDepth 20000 in
theorem gX1_isKind_X1_isIn : GoodIn wsX1_isKind (va_wsS RX1 41 yX1_isIn wsX1_isIn) := goodIn_app (goodIn_of _ (by decide +kernel)) ggX1_isKind_X1_isIn
theorem dX1_isKind_0 : decode cX1_isKind 0 = .ok (.iload_n 0, 1) := by decide +kernel
theorem dX1_isKind_1 : decode cX1_isKind 1 = .ok (.iconst 0, 1) := by decide +kernel
theorem dX1_isKind_2 : decode cX1_isKind 2 = .ok (.iconst 3, 1) := by decide +kernel
theorem dX1_isKind_3 : decode cX1_isKind 3 = .ok (.invokestatic 41, 3) := by decide +kernel
theorem dX1_isKind_6 : decode cX1_isKind 6 = .ok (.ireturn, 1) := by decide +kernel
set_option maxRecDepth 20000 in
theorem ggX1_isColour_X1_isIn : GoodIn wsX1_isColour wsX1_isIn := goodIn_r _ [4] (by decide +kernel) (by decide +kernel)
set_option maxRecDepth 20000 in
theorem gX1_isColour_X1_isIn : GoodIn wsX1_isColour (va_wsS RX1 41 yX1_isIn wsX1_isIn) := goodIn_app (goodIn_of _ (by decide +kernel)) ggX1_isColour_X1_isIn
theorem dX1_isColour_0 : decode cX1_isColour 0 = .ok (.iload_n 0, 1) := by decide +kernel
theorem dX1_isColour_1 : decode cX1_isColour 1 = .ok (.iconst 0, 1) := by decide +kernel
theorem dX1_isColour_2 : decode cX1_isColour 2 = .ok (.iconst 5, 1) := by decide +kernel
theorem dX1_isColour_3 : decode cX1_isColour 3 = .ok (.invokestatic 41, 3) := by decide +kernel
theorem dX1_isColour_6 : decode cX1_isColour 6 = .ok (.ireturn, 1) := by decide +kernel
set_option maxRecDepth 20000 in
theorem ggX1_isCell_X1_isSkin : GoodIn wsX1_isCell wsX1_isSkin := goodIn_r _ [5, 6, 7, 8, 4, 9, 10, 11, 12, 13, 14, 15, 16, 17, 18, 19, 20, 21] (by decide +kernel) (by decide +kernel)
set_option maxRecDepth 20000 in
theorem gX1_isCell_X1_isSkin : GoodIn wsX1_isCell (wsV RX1 45 RX1 yX1_isSkin wsX1_isSkin) := goodIn_app (goodIn_of _ (by decide +kernel)) ggX1_isCell_X1_isSkin
set_option maxRecDepth 20000 in
theorem ggX1_isCell_X1_isIn : GoodIn wsX1_isCell wsX1_isIn := goodIn_r _ [9] (by decide +kernel) (by decide +kernel)
set_option maxRecDepth 20000 in
theorem gX1_isCell_X1_isIn : GoodIn wsX1_isCell (va_wsS RX1 41 yX1_isIn wsX1_isIn) := goodIn_app (goodIn_of _ (by decide +kernel)) ggX1_isCell_X1_isIn
theorem dX1_isCell_0 : decode cX1_isCell 0 = .ok (.aload_n 0, 1) := by decide +kernel
theorem dX1_isCell_1 : decode cX1_isCell 1 = .ok (.iload_n 1, 1) := by decide +kernel
theorem dX1_isCell_2 : decode cX1_isCell 2 = .ok (.invokevirtual 45, 3) := by decide +kernel
theorem dX1_isCell_5 : decode cX1_isCell 5 = .ok (.ifCond .eq 27, 3) := by decide +kernel
theorem dX1_isCell_8 : decode cX1_isCell 8 = .ok (.iload_n 2, 1) := by decide +kernel
theorem dX1_isCell_9 : decode cX1_isCell 9 = .ok (.iconst 0, 1) := by decide +kernel
theorem dX1_isCell_10 : decode cX1_isCell 10 = .ok (.bipush 11, 2) := by decide +kernel
theorem dX1_isCell_12 : decode cX1_isCell 12 = .ok (.invokestatic 41, 3) := by decide +kernel
theorem dX1_isCell_15 : decode cX1_isCell 15 = .ok (.ifCond .eq 17, 3) := by decide +kernel
theorem dX1_isCell_18 : decode cX1_isCell 18 = .ok (.iload_n 3, 1) := by decide +kernel
theorem dX1_isCell_19 : decode cX1_isCell 19 = .ok (.iconst 0, 1) := by decide +kernel
theorem dX1_isCell_20 : decode cX1_isCell 20 = .ok (.bipush 7, 2) := by decide +kernel
theorem dX1_isCell_22 : decode cX1_isCell 22 = .ok (.invokestatic 41, 3) := by decide +kernel
theorem dX1_isCell_25 : decode cX1_isCell 25 = .ok (.ifCond .eq 7, 3) := by decide +kernel
theorem dX1_isCell_28 : decode cX1_isCell 28 = .ok (.iconst 1, 1) := by decide +kernel
theorem dX1_isCell_29 : decode cX1_isCell 29 = .ok (.goto 4, 3) := by decide +kernel
theorem dX1_isCell_32 : decode cX1_isCell 32 = .ok (.iconst 0, 1) := by decide +kernel
theorem dX1_isCell_33 : decode cX1_isCell 33 = .ok (.ireturn, 1) := by decide +kernel
set_option maxRecDepth 20000 in
theorem ggX1_lay_X1_isColour : GoodIn wsX1_lay wsX1_isColour := goodIn_r _ [7, 8, 9, 6, 10] (by decide +kernel) (by decide +kernel)
set_option maxRecDepth 20000 in
theorem gX1_lay_X1_isColour : GoodIn wsX1_lay (va_wsS RX1 49 yX1_isColour wsX1_isColour) := goodIn_app (goodIn_of _ (by decide +kernel)) ggX1_lay_X1_isColour
set_option maxRecDepth 20000 in
theorem ggX1_lay_X1_no : GoodIn wsX1_lay wsX1_no := goodIn_r _ [14, 1, 15, 16, 17, 18, 19, 20, 21, 22, 23, 24, 25, 26] (by decide +kernel) (by decide +kernel)
set_option maxRecDepth 20000 in
theorem gX1_lay_X1_no : GoodIn wsX1_lay (wsV RX1 52 RX1 yX1_no wsX1_no) := goodIn_app (goodIn_of _ (by decide +kernel)) ggX1_lay_X1_no
theorem dX1_lay_0 : decode cX1_lay 0 = .ok (.aload_n 0, 1) := by decide +kernel
theorem dX1_lay_1 : decode cX1_lay 1 = .ok (.iconst 0, 1) := by decide +kernel
theorem dX1_lay_2 : decode cX1_lay 2 = .ok (.putfield 34, 3) := by decide +kernel
theorem dX1_lay_5 : decode cX1_lay 5 = .ok (.iload_n 1, 1) := by decide +kernel
theorem dX1_lay_6 : decode cX1_lay 6 = .ok (.invokestatic 49, 3) := by decide +kernel
theorem dX1_lay_9 : decode cX1_lay 9 = .ok (.ifCond .ne 9, 3) := by decide +kernel
theorem dX1_lay_12 : decode cX1_lay 12 = .ok (.aload_n 0, 1) := by decide +kernel
theorem dX1_lay_13 : decode cX1_lay 13 = .ok (.iconst 1, 1) := by decide +kernel
theorem dX1_lay_14 : decode cX1_lay 14 = .ok (.invokevirtual 52, 3) := by decide +kernel
theorem dX1_lay_17 : decode cX1_lay 17 = .ok (.ireturn, 1) := by decide +kernel
theorem dX1_lay_18 : decode cX1_lay 18 = .ok (.aload_n 0, 1) := by decide +kernel
theorem dX1_lay_19 : decode cX1_lay 19 = .ok (.getfield 38, 3) := by decide +kernel
theorem dX1_lay_22 : decode cX1_lay 22 = .ok (.bipush 10, 2) := by decide +kernel
theorem dX1_lay_24 : decode cX1_lay 24 = .ok (.if_icmp .ne 9, 3) := by decide +kernel
theorem dX1_lay_27 : decode cX1_lay 27 = .ok (.aload_n 0, 1) := by decide +kernel
theorem dX1_lay_28 : decode cX1_lay 28 = .ok (.iconst 2, 1) := by decide +kernel
theorem dX1_lay_29 : decode cX1_lay 29 = .ok (.invokevirtual 52, 3) := by decide +kernel
theorem dX1_lay_32 : decode cX1_lay 32 = .ok (.ireturn, 1) := by decide +kernel
theorem dX1_lay_33 : decode cX1_lay 33 = .ok (.aload_n 0, 1) := by decide +kernel
theorem dX1_lay_34 : decode cX1_lay 34 = .ok (.getfield 9, 3) := by decide +kernel
theorem dX1_lay_37 : decode cX1_lay 37 = .ok (.aload_n 0, 1) := by decide +kernel
theorem dX1_lay_38 : decode cX1_lay 38 = .ok (.getfield 38, 3) := by decide +kernel
theorem dX1_lay_41 : decode cX1_lay 41 = .ok (.iload_n 1, 1) := by decide +kernel
theorem dX1_lay_42 : decode cX1_lay 42 = .ok (.iastore, 1) := by decide +kernel
theorem dX1_lay_43 : decode cX1_lay 43 = .ok (.aload_n 0, 1) := by decide +kernel
theorem dX1_lay_44 : decode cX1_lay 44 = .ok (.dup, 1) := by decide +kernel
theorem dX1_lay_45 : decode cX1_lay 45 = .ok (.getfield 38, 3) := by decide +kernel
theorem dX1_lay_48 : decode cX1_lay 48 = .ok (.iconst 1, 1) := by decide +kernel
theorem dX1_lay_49 : decode cX1_lay 49 = .ok (.iadd, 1) := by decide +kernel
theorem dX1_lay_50 : decode cX1_lay 50 = .ok (.putfield 38, 3) := by decide +kernel
theorem dX1_lay_53 : decode cX1_lay 53 = .ok (.aload_n 0, 1) := by decide +kernel
theorem dX1_lay_54 : decode cX1_lay 54 = .ok (.getfield 38, 3) := by decide +kernel
theorem dX1_lay_57 : decode cX1_lay 57 = .ok (.iconst 1, 1) := by decide +kernel
theorem dX1_lay_58 : decode cX1_lay 58 = .ok (.isub, 1) := by decide +kernel
theorem dX1_lay_59 : decode cX1_lay 59 = .ok (.ireturn, 1) := by decide +kernel
theorem dX1_many_0 : decode cX1_many 0 = .ok (.iconst 0, 1) := by decide +kernel
theorem dX1_many_1 : decode cX1_many 1 = .ok (.istore 5, 2) := by decide +kernel
theorem dX1_many_3 : decode cX1_many 3 = .ok (.iconst 0, 1) := by decide +kernel
theorem dX1_many_4 : decode cX1_many 4 = .ok (.istore 6, 2) := by decide +kernel
theorem dX1_many_6 : decode cX1_many 6 = .ok (.iload 6, 2) := by decide +kernel
theorem dX1_many_8 : decode cX1_many 8 = .ok (.iload_n 2, 1) := by decide +kernel
theorem dX1_many_9 : decode cX1_many 9 = .ok (.iload_n 3, 1) := by decide +kernel
theorem dX1_many_10 : decode cX1_many 10 = .ok (.imul, 1) := by decide +kernel
theorem dX1_many_11 : decode cX1_many 11 = .ok (.if_icmp .ge 40, 3) := by decide +kernel
theorem dX1_many_14 : decode cX1_many 14 = .ok (.iload 5, 2) := by decide +kernel
theorem dX1_many_16 : decode cX1_many 16 = .ok (.aload_n 0, 1) := by decide +kernel
theorem dX1_many_17 : decode cX1_many 17 = .ok (.iload_n 1, 1) := by decide +kernel
theorem dX1_many_18 : decode cX1_many 18 = .ok (.iload 6, 2) := by decide +kernel
theorem dX1_many_20 : decode cX1_many 20 = .ok (.iload_n 2, 1) := by decide +kernel
theorem dX1_many_21 : decode cX1_many 21 = .ok (.idiv, 1) := by decide +kernel
theorem dX1_many_22 : decode cX1_many 22 = .ok (.bipush 12, 2) := by decide +kernel
theorem dX1_many_24 : decode cX1_many 24 = .ok (.imul, 1) := by decide +kernel
theorem dX1_many_25 : decode cX1_many 25 = .ok (.iadd, 1) := by decide +kernel
theorem dX1_many_26 : decode cX1_many 26 = .ok (.iload 6, 2) := by decide +kernel
theorem dX1_many_28 : decode cX1_many 28 = .ok (.iload_n 2, 1) := by decide +kernel
theorem dX1_many_29 : decode cX1_many 29 = .ok (.irem, 1) := by decide +kernel
theorem dX1_many_30 : decode cX1_many 30 = .ok (.iadd, 1) := by decide +kernel
theorem dX1_many_31 : decode cX1_many 31 = .ok (.iaload, 1) := by decide +kernel
theorem dX1_many_32 : decode cX1_many 32 = .ok (.iload 4, 2) := by decide +kernel
theorem dX1_many_34 : decode cX1_many 34 = .ok (.if_icmp .ne 7, 3) := by decide +kernel
theorem dX1_many_37 : decode cX1_many 37 = .ok (.iconst 1, 1) := by decide +kernel
theorem dX1_many_38 : decode cX1_many 38 = .ok (.goto 4, 3) := by decide +kernel
theorem dX1_many_41 : decode cX1_many 41 = .ok (.iconst 0, 1) := by decide +kernel
theorem dX1_many_42 : decode cX1_many 42 = .ok (.iadd, 1) := by decide +kernel
theorem dX1_many_43 : decode cX1_many 43 = .ok (.istore 5, 2) := by decide +kernel
theorem dX1_many_45 : decode cX1_many 45 = .ok (.iinc 6 1, 3) := by decide +kernel
theorem dX1_many_48 : decode cX1_many 48 = .ok (.goto (-42), 3) := by decide +kernel
theorem dX1_many_51 : decode cX1_many 51 = .ok (.iload 5, 2) := by decide +kernel
theorem dX1_many_53 : decode cX1_many 53 = .ok (.ireturn, 1) := by decide +kernel
theorem dX1_fill_0 : decode cX1_fill 0 = .ok (.iconst 0, 1) := by decide +kernel
theorem dX1_fill_1 : decode cX1_fill 1 = .ok (.istore 5, 2) := by decide +kernel
theorem dX1_fill_3 : decode cX1_fill 3 = .ok (.iload 5, 2) := by decide +kernel
theorem dX1_fill_5 : decode cX1_fill 5 = .ok (.iload_n 2, 1) := by decide +kernel
theorem dX1_fill_6 : decode cX1_fill 6 = .ok (.iload_n 3, 1) := by decide +kernel
theorem dX1_fill_7 : decode cX1_fill 7 = .ok (.imul, 1) := by decide +kernel
theorem dX1_fill_8 : decode cX1_fill 8 = .ok (.if_icmp .ge 27, 3) := by decide +kernel
theorem dX1_fill_11 : decode cX1_fill 11 = .ok (.aload_n 0, 1) := by decide +kernel
theorem dX1_fill_12 : decode cX1_fill 12 = .ok (.iload_n 1, 1) := by decide +kernel
theorem dX1_fill_13 : decode cX1_fill 13 = .ok (.iload 5, 2) := by decide +kernel
theorem dX1_fill_15 : decode cX1_fill 15 = .ok (.iload_n 2, 1) := by decide +kernel
theorem dX1_fill_16 : decode cX1_fill 16 = .ok (.idiv, 1) := by decide +kernel
theorem dX1_fill_17 : decode cX1_fill 17 = .ok (.bipush 12, 2) := by decide +kernel
theorem dX1_fill_19 : decode cX1_fill 19 = .ok (.imul, 1) := by decide +kernel
theorem dX1_fill_20 : decode cX1_fill 20 = .ok (.iadd, 1) := by decide +kernel
theorem dX1_fill_21 : decode cX1_fill 21 = .ok (.iload 5, 2) := by decide +kernel
theorem dX1_fill_23 : decode cX1_fill 23 = .ok (.iload_n 2, 1) := by decide +kernel
theorem dX1_fill_24 : decode cX1_fill 24 = .ok (.irem, 1) := by decide +kernel
theorem dX1_fill_25 : decode cX1_fill 25 = .ok (.iadd, 1) := by decide +kernel
theorem dX1_fill_26 : decode cX1_fill 26 = .ok (.iload 4, 2) := by decide +kernel
theorem dX1_fill_28 : decode cX1_fill 28 = .ok (.iastore, 1) := by decide +kernel
theorem dX1_fill_29 : decode cX1_fill 29 = .ok (.iinc 5 1, 3) := by decide +kernel
theorem dX1_fill_32 : decode cX1_fill 32 = .ok (.goto (-29), 3) := by decide +kernel
theorem dX1_fill_35 : decode cX1_fill 35 = .ok (.return_, 1) := by decide +kernel
set_option maxRecDepth 20000 in
theorem ggX1_mark_X1_isCell : GoodIn wsX1_mark wsX1_isCell := goodIn_r _ [7, 8, 9, 10, 6, 11, 12, 13, 14, 15, 26, 27, 28, 29, 30, 31, 32, 33, 34, 35, 36, 37] (by decide +kernel) (by decide +kernel)
set_option maxRecDepth 20000 in
theorem gX1_mark_X1_isCell : GoodIn wsX1_mark (wsV RX1 56 RX1 yX1_isCell wsX1_isCell) := goodIn_app (goodIn_of _ (by decide +kernel)) ggX1_mark_X1_isCell
set_option maxRecDepth 20000 in
theorem ggX1_mark_X1_no : GoodIn wsX1_mark wsX1_no := goodIn_r _ [19, 1, 26, 27, 28, 29, 30, 31, 32, 33, 34, 35, 36, 37] (by decide +kernel) (by decide +kernel)
set_option maxRecDepth 20000 in
theorem gX1_mark_X1_no : GoodIn wsX1_mark (wsV RX1 52 RX1 yX1_no wsX1_no) := goodIn_app (goodIn_of _ (by decide +kernel)) ggX1_mark_X1_no
set_option maxRecDepth 20000 in
theorem ggX1_mark_X1_isIn : GoodIn wsX1_mark wsX1_isIn := goodIn_r _ [15] (by decide +kernel) (by decide +kernel)
set_option maxRecDepth 20000 in
theorem gX1_mark_X1_isIn : GoodIn wsX1_mark (va_wsS RX1 41 yX1_isIn wsX1_isIn) := goodIn_app (goodIn_of _ (by decide +kernel)) ggX1_mark_X1_isIn
set_option maxRecDepth 20000 in
theorem ggX1_mark_X1_many : GoodIn wsX1_mark wsX1_many := goodIn_r _ [22] (by decide +kernel) (by decide +kernel)
set_option maxRecDepth 20000 in
theorem gX1_mark_X1_many : GoodIn wsX1_mark (va_wsS RX1 59 yX1_many wsX1_many) := goodIn_app (goodIn_of _ (by decide +kernel)) ggX1_mark_X1_many
set_option maxRecDepth 20000 in
theorem ggX1_mark_X1_fill : GoodIn wsX1_mark wsX1_fill := goodIn_r _ [25] (by decide +kernel) (by decide +kernel)
set_option maxRecDepth 20000 in
theorem gX1_mark_X1_fill : GoodIn wsX1_mark (va_wsS RX1 63 yX1_fill wsX1_fill) := goodIn_app (goodIn_of _ (by decide +kernel)) ggX1_mark_X1_fill
theorem dX1_mark_0 : decode cX1_mark 0 = .ok (.aload_n 0, 1) := by decide +kernel
theorem dX1_mark_1 : decode cX1_mark 1 = .ok (.iconst 0, 1) := by decide +kernel
theorem dX1_mark_2 : decode cX1_mark 2 = .ok (.putfield 34, 3) := by decide +kernel
theorem dX1_mark_5 : decode cX1_mark 5 = .ok (.aload_n 0, 1) := by decide +kernel
theorem dX1_mark_6 : decode cX1_mark 6 = .ok (.iload_n 1, 1) := by decide +kernel
theorem dX1_mark_7 : decode cX1_mark 7 = .ok (.iload_n 2, 1) := by decide +kernel
theorem dX1_mark_8 : decode cX1_mark 8 = .ok (.iload_n 3, 1) := by decide +kernel
theorem dX1_mark_9 : decode cX1_mark 9 = .ok (.invokevirtual 56, 3) := by decide +kernel
theorem dX1_mark_12 : decode cX1_mark 12 = .ok (.ifCond .ne 9, 3) := by decide +kernel
theorem dX1_mark_15 : decode cX1_mark 15 = .ok (.aload_n 0, 1) := by decide +kernel
theorem dX1_mark_16 : decode cX1_mark 16 = .ok (.iconst 1, 1) := by decide +kernel
theorem dX1_mark_17 : decode cX1_mark 17 = .ok (.invokevirtual 52, 3) := by decide +kernel
theorem dX1_mark_20 : decode cX1_mark 20 = .ok (.ireturn, 1) := by decide +kernel
theorem dX1_mark_21 : decode cX1_mark 21 = .ok (.iload 4, 2) := by decide +kernel
theorem dX1_mark_23 : decode cX1_mark 23 = .ok (.iconst 1, 1) := by decide +kernel
theorem dX1_mark_24 : decode cX1_mark 24 = .ok (.bipush 12, 2) := by decide +kernel
theorem dX1_mark_26 : decode cX1_mark 26 = .ok (.iload_n 2, 1) := by decide +kernel
theorem dX1_mark_27 : decode cX1_mark 27 = .ok (.isub, 1) := by decide +kernel
theorem dX1_mark_28 : decode cX1_mark 28 = .ok (.invokestatic 41, 3) := by decide +kernel
theorem dX1_mark_31 : decode cX1_mark 31 = .ok (.ifCond .eq 26, 3) := by decide +kernel
theorem dX1_mark_34 : decode cX1_mark 34 = .ok (.iload 5, 2) := by decide +kernel
theorem dX1_mark_36 : decode cX1_mark 36 = .ok (.iconst 1, 1) := by decide +kernel
theorem dX1_mark_37 : decode cX1_mark 37 = .ok (.bipush 8, 2) := by decide +kernel
theorem dX1_mark_39 : decode cX1_mark 39 = .ok (.iload_n 3, 1) := by decide +kernel
theorem dX1_mark_40 : decode cX1_mark 40 = .ok (.isub, 1) := by decide +kernel
theorem dX1_mark_41 : decode cX1_mark 41 = .ok (.invokestatic 41, 3) := by decide +kernel
theorem dX1_mark_44 : decode cX1_mark 44 = .ok (.ifCond .eq 13, 3) := by decide +kernel
theorem dX1_mark_47 : decode cX1_mark 47 = .ok (.iload 6, 2) := by decide +kernel
theorem dX1_mark_49 : decode cX1_mark 49 = .ok (.iconst 0, 1) := by decide +kernel
theorem dX1_mark_50 : decode cX1_mark 50 = .ok (.iconst 2, 1) := by decide +kernel
theorem dX1_mark_51 : decode cX1_mark 51 = .ok (.invokestatic 41, 3) := by decide +kernel
theorem dX1_mark_54 : decode cX1_mark 54 = .ok (.ifCond .ne 9, 3) := by decide +kernel
theorem dX1_mark_57 : decode cX1_mark 57 = .ok (.aload_n 0, 1) := by decide +kernel
theorem dX1_mark_58 : decode cX1_mark 58 = .ok (.iconst 2, 1) := by decide +kernel
theorem dX1_mark_59 : decode cX1_mark 59 = .ok (.invokevirtual 52, 3) := by decide +kernel
theorem dX1_mark_62 : decode cX1_mark 62 = .ok (.ireturn, 1) := by decide +kernel
theorem dX1_mark_63 : decode cX1_mark 63 = .ok (.bipush 96, 2) := by decide +kernel
theorem dX1_mark_65 : decode cX1_mark 65 = .ok (.iload_n 1, 1) := by decide +kernel
theorem dX1_mark_66 : decode cX1_mark 66 = .ok (.imul, 1) := by decide +kernel
theorem dX1_mark_67 : decode cX1_mark 67 = .ok (.bipush 12, 2) := by decide +kernel
theorem dX1_mark_69 : decode cX1_mark 69 = .ok (.iload_n 3, 1) := by decide +kernel
theorem dX1_mark_70 : decode cX1_mark 70 = .ok (.imul, 1) := by decide +kernel
theorem dX1_mark_71 : decode cX1_mark 71 = .ok (.iadd, 1) := by decide +kernel
theorem dX1_mark_72 : decode cX1_mark 72 = .ok (.iload_n 2, 1) := by decide +kernel
theorem dX1_mark_73 : decode cX1_mark 73 = .ok (.iadd, 1) := by decide +kernel
theorem dX1_mark_74 : decode cX1_mark 74 = .ok (.istore 7, 2) := by decide +kernel
theorem dX1_mark_76 : decode cX1_mark 76 = .ok (.aload_n 0, 1) := by decide +kernel
theorem dX1_mark_77 : decode cX1_mark 77 = .ok (.getfield 13, 3) := by decide +kernel
theorem dX1_mark_80 : decode cX1_mark 80 = .ok (.iload 7, 2) := by decide +kernel
theorem dX1_mark_82 : decode cX1_mark 82 = .ok (.iload 4, 2) := by decide +kernel
theorem dX1_mark_84 : decode cX1_mark 84 = .ok (.iload 5, 2) := by decide +kernel
theorem dX1_mark_86 : decode cX1_mark 86 = .ok (.iconst 3, 1) := by decide +kernel
theorem dX1_mark_87 : decode cX1_mark 87 = .ok (.invokestatic 59, 3) := by decide +kernel
theorem dX1_mark_90 : decode cX1_mark 90 = .ok (.ifCond .le 9, 3) := by decide +kernel
theorem dX1_mark_93 : decode cX1_mark 93 = .ok (.aload_n 0, 1) := by decide +kernel
theorem dX1_mark_94 : decode cX1_mark 94 = .ok (.iconst 3, 1) := by decide +kernel
theorem dX1_mark_95 : decode cX1_mark 95 = .ok (.invokevirtual 52, 3) := by decide +kernel
theorem dX1_mark_98 : decode cX1_mark 98 = .ok (.ireturn, 1) := by decide +kernel
theorem dX1_mark_99 : decode cX1_mark 99 = .ok (.aload_n 0, 1) := by decide +kernel
theorem dX1_mark_100 : decode cX1_mark 100 = .ok (.getfield 13, 3) := by decide +kernel
theorem dX1_mark_103 : decode cX1_mark 103 = .ok (.iload 7, 2) := by decide +kernel
theorem dX1_mark_105 : decode cX1_mark 105 = .ok (.iload 4, 2) := by decide +kernel
theorem dX1_mark_107 : decode cX1_mark 107 = .ok (.iload 5, 2) := by decide +kernel
theorem dX1_mark_109 : decode cX1_mark 109 = .ok (.iload 6, 2) := by decide +kernel
theorem dX1_mark_111 : decode cX1_mark 111 = .ok (.invokestatic 59, 3) := by decide +kernel
theorem dX1_mark_114 : decode cX1_mark 114 = .ok (.istore 8, 2) := by decide +kernel
theorem dX1_mark_116 : decode cX1_mark 116 = .ok (.aload_n 0, 1) := by decide +kernel
theorem dX1_mark_117 : decode cX1_mark 117 = .ok (.getfield 13, 3) := by decide +kernel
theorem dX1_mark_120 : decode cX1_mark 120 = .ok (.iload 7, 2) := by decide +kernel
theorem dX1_mark_122 : decode cX1_mark 122 = .ok (.iload 4, 2) := by decide +kernel
theorem dX1_mark_124 : decode cX1_mark 124 = .ok (.iload 5, 2) := by decide +kernel
theorem dX1_mark_126 : decode cX1_mark 126 = .ok (.iload 6, 2) := by decide +kernel
theorem dX1_mark_128 : decode cX1_mark 128 = .ok (.invokestatic 63, 3) := by decide +kernel
theorem dX1_mark_131 : decode cX1_mark 131 = .ok (.iload 4, 2) := by decide +kernel
theorem dX1_mark_133 : decode cX1_mark 133 = .ok (.iload 5, 2) := by decide +kernel
theorem dX1_mark_135 : decode cX1_mark 135 = .ok (.imul, 1) := by decide +kernel
theorem dX1_mark_136 : decode cX1_mark 136 = .ok (.iload 8, 2) := by decide +kernel
theorem dX1_mark_138 : decode cX1_mark 138 = .ok (.isub, 1) := by decide +kernel
theorem dX1_mark_139 : decode cX1_mark 139 = .ok (.ireturn, 1) := by decide +kernel
set_option maxRecDepth 20000 in
theorem ggX1_cell_X1_isCell : GoodIn wsX1_cell wsX1_isCell := goodIn_r _ [7, 8, 9, 10, 6, 11, 12, 13, 14, 15, 20, 21, 22, 23, 24, 25, 26, 27, 28, 29, 30, 31] (by decide +kernel) (by decide +kernel)
set_option maxRecDepth 20000 in
theorem gX1_cell_X1_isCell : GoodIn wsX1_cell (wsV RX1 56 RX1 yX1_isCell wsX1_isCell) := goodIn_app (goodIn_of _ (by decide +kernel)) ggX1_cell_X1_isCell
set_option maxRecDepth 20000 in
theorem ggX1_cell_X1_no : GoodIn wsX1_cell wsX1_no := goodIn_r _ [19, 1, 20, 21, 22, 23, 24, 25, 26, 27, 28, 29, 30, 31] (by decide +kernel) (by decide +kernel)
set_option maxRecDepth 20000 in
theorem gX1_cell_X1_no : GoodIn wsX1_cell (wsV RX1 52 RX1 yX1_no wsX1_no) := goodIn_app (goodIn_of _ (by decide +kernel)) ggX1_cell_X1_no
theorem dX1_cell_0 : decode cX1_cell 0 = .ok (.aload_n 0, 1) := by decide +kernel
theorem dX1_cell_1 : decode cX1_cell 1 = .ok (.iconst 0, 1) := by decide +kernel
theorem dX1_cell_2 : decode cX1_cell 2 = .ok (.putfield 34, 3) := by decide +kernel
theorem dX1_cell_5 : decode cX1_cell 5 = .ok (.aload_n 0, 1) := by decide +kernel
theorem dX1_cell_6 : decode cX1_cell 6 = .ok (.iload_n 1, 1) := by decide +kernel
theorem dX1_cell_7 : decode cX1_cell 7 = .ok (.iload_n 2, 1) := by decide +kernel
theorem dX1_cell_8 : decode cX1_cell 8 = .ok (.iload_n 3, 1) := by decide +kernel
theorem dX1_cell_9 : decode cX1_cell 9 = .ok (.invokevirtual 56, 3) := by decide +kernel
theorem dX1_cell_12 : decode cX1_cell 12 = .ok (.ifCond .eq 22, 3) := by decide +kernel
theorem dX1_cell_15 : decode cX1_cell 15 = .ok (.aload_n 0, 1) := by decide +kernel
theorem dX1_cell_16 : decode cX1_cell 16 = .ok (.getfield 13, 3) := by decide +kernel
theorem dX1_cell_19 : decode cX1_cell 19 = .ok (.bipush 96, 2) := by decide +kernel
theorem dX1_cell_21 : decode cX1_cell 21 = .ok (.iload_n 1, 1) := by decide +kernel
theorem dX1_cell_22 : decode cX1_cell 22 = .ok (.imul, 1) := by decide +kernel
theorem dX1_cell_23 : decode cX1_cell 23 = .ok (.bipush 12, 2) := by decide +kernel
theorem dX1_cell_25 : decode cX1_cell 25 = .ok (.iload_n 3, 1) := by decide +kernel
theorem dX1_cell_26 : decode cX1_cell 26 = .ok (.imul, 1) := by decide +kernel
theorem dX1_cell_27 : decode cX1_cell 27 = .ok (.iadd, 1) := by decide +kernel
theorem dX1_cell_28 : decode cX1_cell 28 = .ok (.iload_n 2, 1) := by decide +kernel
theorem dX1_cell_29 : decode cX1_cell 29 = .ok (.iadd, 1) := by decide +kernel
theorem dX1_cell_30 : decode cX1_cell 30 = .ok (.iaload, 1) := by decide +kernel
theorem dX1_cell_31 : decode cX1_cell 31 = .ok (.goto 8, 3) := by decide +kernel
theorem dX1_cell_34 : decode cX1_cell 34 = .ok (.aload_n 0, 1) := by decide +kernel
theorem dX1_cell_35 : decode cX1_cell 35 = .ok (.iconst 1, 1) := by decide +kernel
theorem dX1_cell_36 : decode cX1_cell 36 = .ok (.invokevirtual 52, 3) := by decide +kernel
theorem dX1_cell_39 : decode cX1_cell 39 = .ok (.ireturn, 1) := by decide +kernel
theorem dX1_piecesOf_0 : decode cX1_piecesOf 0 = .ok (.iconst 0, 1) := by decide +kernel
theorem dX1_piecesOf_1 : decode cX1_piecesOf 1 = .ok (.istore_n 2, 1) := by decide +kernel
theorem dX1_piecesOf_2 : decode cX1_piecesOf 2 = .ok (.iconst 0, 1) := by decide +kernel
theorem dX1_piecesOf_3 : decode cX1_piecesOf 3 = .ok (.istore_n 3, 1) := by decide +kernel
theorem dX1_piecesOf_4 : decode cX1_piecesOf 4 = .ok (.iload_n 3, 1) := by decide +kernel
theorem dX1_piecesOf_5 : decode cX1_piecesOf 5 = .ok (.aload_n 0, 1) := by decide +kernel
theorem dX1_piecesOf_6 : decode cX1_piecesOf 6 = .ok (.getfield 67, 3) := by decide +kernel
theorem dX1_piecesOf_9 : decode cX1_piecesOf 9 = .ok (.if_icmp .ge 27, 3) := by decide +kernel
theorem dX1_piecesOf_12 : decode cX1_piecesOf 12 = .ok (.iload_n 2, 1) := by decide +kernel
theorem dX1_piecesOf_13 : decode cX1_piecesOf 13 = .ok (.aload_n 0, 1) := by decide +kernel
theorem dX1_piecesOf_14 : decode cX1_piecesOf 14 = .ok (.getfield 16, 3) := by decide +kernel
theorem dX1_piecesOf_17 : decode cX1_piecesOf 17 = .ok (.iload_n 3, 1) := by decide +kernel
theorem dX1_piecesOf_18 : decode cX1_piecesOf 18 = .ok (.iaload, 1) := by decide +kernel
theorem dX1_piecesOf_19 : decode cX1_piecesOf 19 = .ok (.iload_n 1, 1) := by decide +kernel
theorem dX1_piecesOf_20 : decode cX1_piecesOf 20 = .ok (.if_icmp .ne 7, 3) := by decide +kernel
theorem dX1_piecesOf_23 : decode cX1_piecesOf 23 = .ok (.iconst 1, 1) := by decide +kernel
theorem dX1_piecesOf_24 : decode cX1_piecesOf 24 = .ok (.goto 4, 3) := by decide +kernel
theorem dX1_piecesOf_27 : decode cX1_piecesOf 27 = .ok (.iconst 0, 1) := by decide +kernel
theorem dX1_piecesOf_28 : decode cX1_piecesOf 28 = .ok (.iadd, 1) := by decide +kernel
theorem dX1_piecesOf_29 : decode cX1_piecesOf 29 = .ok (.istore_n 2, 1) := by decide +kernel
theorem dX1_piecesOf_30 : decode cX1_piecesOf 30 = .ok (.iinc 3 1, 3) := by decide +kernel
theorem dX1_piecesOf_33 : decode cX1_piecesOf 33 = .ok (.goto (-29), 3) := by decide +kernel
theorem dX1_piecesOf_36 : decode cX1_piecesOf 36 = .ok (.iload_n 2, 1) := by decide +kernel
theorem dX1_piecesOf_37 : decode cX1_piecesOf 37 = .ok (.ireturn, 1) := by decide +kernel
set_option maxRecDepth 20000 in
theorem ggX1_skinTold_X1_piecesOf : GoodIn wsX1_skinTold wsX1_piecesOf := goodIn_r _ [7, 8, 9, 13, 14, 15, 16, 17, 18, 19, 20, 21, 22, 23, 24] (by decide +kernel) (by decide +kernel)
set_option maxRecDepth 20000 in
theorem gX1_skinTold_X1_piecesOf : GoodIn wsX1_skinTold (wsV RX1 70 RX1 yX1_piecesOf wsX1_piecesOf) := goodIn_app (goodIn_of _ (by decide +kernel)) ggX1_skinTold_X1_piecesOf
set_option maxRecDepth 20000 in
theorem ggX1_skinTold_X1_many : GoodIn wsX1_skinTold wsX1_many := goodIn_r _ [12] (by decide +kernel) (by decide +kernel)
set_option maxRecDepth 20000 in
theorem gX1_skinTold_X1_many : GoodIn wsX1_skinTold (va_wsS RX1 59 yX1_many wsX1_many) := goodIn_app (goodIn_of _ (by decide +kernel)) ggX1_skinTold_X1_many
theorem dX1_skinTold_0 : decode cX1_skinTold 0 = .ok (.iload_n 2, 1) := by decide +kernel
theorem dX1_skinTold_1 : decode cX1_skinTold 1 = .ok (.ifCond .ne 12, 3) := by decide +kernel
theorem dX1_skinTold_4 : decode cX1_skinTold 4 = .ok (.aload_n 0, 1) := by decide +kernel
theorem dX1_skinTold_5 : decode cX1_skinTold 5 = .ok (.getfield 9, 3) := by decide +kernel
theorem dX1_skinTold_8 : decode cX1_skinTold 8 = .ok (.iload_n 1, 1) := by decide +kernel
theorem dX1_skinTold_9 : decode cX1_skinTold 9 = .ok (.iaload, 1) := by decide +kernel
theorem dX1_skinTold_10 : decode cX1_skinTold 10 = .ok (.goto 34, 3) := by decide +kernel
theorem dX1_skinTold_13 : decode cX1_skinTold 13 = .ok (.iload_n 2, 1) := by decide +kernel
theorem dX1_skinTold_14 : decode cX1_skinTold 14 = .ok (.iconst 5, 1) := by decide +kernel
theorem dX1_skinTold_15 : decode cX1_skinTold 15 = .ok (.if_icmp .ne 11, 3) := by decide +kernel
theorem dX1_skinTold_18 : decode cX1_skinTold 18 = .ok (.aload_n 0, 1) := by decide +kernel
theorem dX1_skinTold_19 : decode cX1_skinTold 19 = .ok (.iload_n 1, 1) := by decide +kernel
theorem dX1_skinTold_20 : decode cX1_skinTold 20 = .ok (.invokevirtual 70, 3) := by decide +kernel
theorem dX1_skinTold_23 : decode cX1_skinTold 23 = .ok (.goto 21, 3) := by decide +kernel
theorem dX1_skinTold_26 : decode cX1_skinTold 26 = .ok (.aload_n 0, 1) := by decide +kernel
theorem dX1_skinTold_27 : decode cX1_skinTold 27 = .ok (.getfield 13, 3) := by decide +kernel
theorem dX1_skinTold_30 : decode cX1_skinTold 30 = .ok (.bipush 96, 2) := by decide +kernel
theorem dX1_skinTold_32 : decode cX1_skinTold 32 = .ok (.iload_n 1, 1) := by decide +kernel
theorem dX1_skinTold_33 : decode cX1_skinTold 33 = .ok (.imul, 1) := by decide +kernel
theorem dX1_skinTold_34 : decode cX1_skinTold 34 = .ok (.bipush 12, 2) := by decide +kernel
theorem dX1_skinTold_36 : decode cX1_skinTold 36 = .ok (.bipush 8, 2) := by decide +kernel
theorem dX1_skinTold_38 : decode cX1_skinTold 38 = .ok (.iload_n 2, 1) := by decide +kernel
theorem dX1_skinTold_39 : decode cX1_skinTold 39 = .ok (.iconst 1, 1) := by decide +kernel
theorem dX1_skinTold_40 : decode cX1_skinTold 40 = .ok (.isub, 1) := by decide +kernel
theorem dX1_skinTold_41 : decode cX1_skinTold 41 = .ok (.invokestatic 59, 3) := by decide +kernel
theorem dX1_skinTold_44 : decode cX1_skinTold 44 = .ok (.ireturn, 1) := by decide +kernel
set_option maxRecDepth 20000 in
theorem ggX1_skin_X1_isSkin : GoodIn wsX1_skin wsX1_isSkin := goodIn_r _ [6, 7, 8, 9, 5, 10, 30, 31, 32, 33, 34, 35, 36, 37, 38, 39, 40, 41] (by decide +kernel) (by decide +kernel)
set_option maxRecDepth 20000 in
theorem gX1_skin_X1_isSkin : GoodIn wsX1_skin (wsV RX1 45 RX1 yX1_isSkin wsX1_isSkin) := goodIn_app (goodIn_of _ (by decide +kernel)) ggX1_skin_X1_isSkin
set_option maxRecDepth 20000 in
theorem ggX1_skin_X1_isIn : GoodIn wsX1_skin wsX1_isIn := goodIn_r _ [10] (by decide +kernel) (by decide +kernel)
set_option maxRecDepth 20000 in
theorem gX1_skin_X1_isIn : GoodIn wsX1_skin (va_wsS RX1 41 yX1_isIn wsX1_isIn) := goodIn_app (goodIn_of _ (by decide +kernel)) ggX1_skin_X1_isIn
set_option maxRecDepth 20000 in
theorem ggX1_skin_X1_skinTold : GoodIn wsX1_skin wsX1_skinTold := goodIn_r _ [14, 15, 16, 17, 18, 19, 5, 20, 21, 22, 23, 24, 25, 30, 31, 32, 33, 34, 35, 36, 37, 38, 39, 40, 41] (by decide +kernel) (by decide +kernel)
set_option maxRecDepth 20000 in
theorem gX1_skin_X1_skinTold : GoodIn wsX1_skin (wsV RX1 73 RX1 yX1_skinTold wsX1_skinTold) := goodIn_app (goodIn_of _ (by decide +kernel)) ggX1_skin_X1_skinTold
set_option maxRecDepth 20000 in
theorem ggX1_skin_X1_no : GoodIn wsX1_skin wsX1_no := goodIn_r _ [29, 1, 30, 31, 32, 33, 34, 35, 36, 37, 38, 39, 40, 41] (by decide +kernel) (by decide +kernel)
set_option maxRecDepth 20000 in
theorem gX1_skin_X1_no : GoodIn wsX1_skin (wsV RX1 52 RX1 yX1_no wsX1_no) := goodIn_app (goodIn_of _ (by decide +kernel)) ggX1_skin_X1_no
theorem dX1_skin_0 : decode cX1_skin 0 = .ok (.aload_n 0, 1) := by decide +kernel
theorem dX1_skin_1 : decode cX1_skin 1 = .ok (.iconst 0, 1) := by decide +kernel
theorem dX1_skin_2 : decode cX1_skin 2 = .ok (.putfield 34, 3) := by decide +kernel
theorem dX1_skin_5 : decode cX1_skin 5 = .ok (.aload_n 0, 1) := by decide +kernel
theorem dX1_skin_6 : decode cX1_skin 6 = .ok (.iload_n 1, 1) := by decide +kernel
theorem dX1_skin_7 : decode cX1_skin 7 = .ok (.invokevirtual 45, 3) := by decide +kernel
theorem dX1_skin_10 : decode cX1_skin 10 = .ok (.ifCond .eq 21, 3) := by decide +kernel
theorem dX1_skin_13 : decode cX1_skin 13 = .ok (.iload_n 2, 1) := by decide +kernel
theorem dX1_skin_14 : decode cX1_skin 14 = .ok (.iconst 0, 1) := by decide +kernel
theorem dX1_skin_15 : decode cX1_skin 15 = .ok (.iconst 5, 1) := by decide +kernel
theorem dX1_skin_16 : decode cX1_skin 16 = .ok (.invokestatic 41, 3) := by decide +kernel
theorem dX1_skin_19 : decode cX1_skin 19 = .ok (.ifCond .eq 12, 3) := by decide +kernel
theorem dX1_skin_22 : decode cX1_skin 22 = .ok (.aload_n 0, 1) := by decide +kernel
theorem dX1_skin_23 : decode cX1_skin 23 = .ok (.iload_n 1, 1) := by decide +kernel
theorem dX1_skin_24 : decode cX1_skin 24 = .ok (.iload_n 2, 1) := by decide +kernel
theorem dX1_skin_25 : decode cX1_skin 25 = .ok (.invokevirtual 73, 3) := by decide +kernel
theorem dX1_skin_28 : decode cX1_skin 28 = .ok (.goto 8, 3) := by decide +kernel
theorem dX1_skin_31 : decode cX1_skin 31 = .ok (.aload_n 0, 1) := by decide +kernel
theorem dX1_skin_32 : decode cX1_skin 32 = .ok (.iconst 1, 1) := by decide +kernel
theorem dX1_skin_33 : decode cX1_skin 33 = .ok (.invokevirtual 52, 3) := by decide +kernel
theorem dX1_skin_36 : decode cX1_skin 36 = .ok (.ireturn, 1) := by decide +kernel
theorem dX1_wideOf_0 : decode cX1_wideOf 0 = .ok (.iload_n 1, 1) := by decide +kernel
theorem dX1_wideOf_1 : decode cX1_wideOf 1 = .ok (.ifCond .eq 11, 3) := by decide +kernel
theorem dX1_wideOf_4 : decode cX1_wideOf 4 = .ok (.getstatic 77, 3) := by decide +kernel
theorem dX1_wideOf_7 : decode cX1_wideOf 7 = .ok (.iload_n 0, 1) := by decide +kernel
theorem dX1_wideOf_8 : decode cX1_wideOf 8 = .ok (.iaload, 1) := by decide +kernel
theorem dX1_wideOf_9 : decode cX1_wideOf 9 = .ok (.goto 8, 3) := by decide +kernel
theorem dX1_wideOf_12 : decode cX1_wideOf 12 = .ok (.getstatic 80, 3) := by decide +kernel
theorem dX1_wideOf_15 : decode cX1_wideOf 15 = .ok (.iload_n 0, 1) := by decide +kernel
theorem dX1_wideOf_16 : decode cX1_wideOf 16 = .ok (.iaload, 1) := by decide +kernel
theorem dX1_wideOf_17 : decode cX1_wideOf 17 = .ok (.ireturn, 1) := by decide +kernel
theorem dX1_highOf_0 : decode cX1_highOf 0 = .ok (.iload_n 1, 1) := by decide +kernel
theorem dX1_highOf_1 : decode cX1_highOf 1 = .ok (.ifCond .eq 11, 3) := by decide +kernel
theorem dX1_highOf_4 : decode cX1_highOf 4 = .ok (.getstatic 80, 3) := by decide +kernel
theorem dX1_highOf_7 : decode cX1_highOf 7 = .ok (.iload_n 0, 1) := by decide +kernel
theorem dX1_highOf_8 : decode cX1_highOf 8 = .ok (.iaload, 1) := by decide +kernel
theorem dX1_highOf_9 : decode cX1_highOf 9 = .ok (.goto 8, 3) := by decide +kernel
theorem dX1_highOf_12 : decode cX1_highOf 12 = .ok (.getstatic 77, 3) := by decide +kernel
theorem dX1_highOf_15 : decode cX1_highOf 15 = .ok (.iload_n 0, 1) := by decide +kernel
theorem dX1_highOf_16 : decode cX1_highOf 16 = .ok (.iaload, 1) := by decide +kernel
theorem dX1_highOf_17 : decode cX1_highOf 17 = .ok (.ireturn, 1) := by decide +kernel
set_option maxRecDepth 20000 in
theorem ggX1_can_X1_wideOf : GoodIn wsX1_can wsX1_wideOf := goodIn_r _ [4, 5, 6] (by decide +kernel) (by decide +kernel)
set_option maxRecDepth 20000 in
theorem gX1_can_X1_wideOf : GoodIn wsX1_can (va_wsS RX1 83 yX1_wideOf wsX1_wideOf) := goodIn_app (goodIn_of _ (by decide +kernel)) ggX1_can_X1_wideOf
set_option maxRecDepth 20000 in
theorem ggX1_can_X1_highOf : GoodIn wsX1_can wsX1_highOf := goodIn_r _ [9, 6, 5] (by decide +kernel) (by decide +kernel)
set_option maxRecDepth 20000 in
theorem gX1_can_X1_highOf : GoodIn wsX1_can (va_wsS RX1 87 yX1_highOf wsX1_highOf) := goodIn_app (goodIn_of _ (by decide +kernel)) ggX1_can_X1_highOf
set_option maxRecDepth 20000 in
theorem ggX1_can_X1_many : GoodIn wsX1_can wsX1_many := goodIn_r _ [12] (by decide +kernel) (by decide +kernel)
set_option maxRecDepth 20000 in
theorem gX1_can_X1_many : GoodIn wsX1_can (va_wsS RX1 59 yX1_many wsX1_many) := goodIn_app (goodIn_of _ (by decide +kernel)) ggX1_can_X1_many
theorem dX1_can_0 : decode cX1_can 0 = .ok (.iload_n 2, 1) := by decide +kernel
theorem dX1_can_1 : decode cX1_can 1 = .ok (.iload_n 3, 1) := by decide +kernel
theorem dX1_can_2 : decode cX1_can 2 = .ok (.invokestatic 83, 3) := by decide +kernel
theorem dX1_can_5 : decode cX1_can 5 = .ok (.istore 5, 2) := by decide +kernel
theorem dX1_can_7 : decode cX1_can 7 = .ok (.iload_n 2, 1) := by decide +kernel
theorem dX1_can_8 : decode cX1_can 8 = .ok (.iload_n 3, 1) := by decide +kernel
theorem dX1_can_9 : decode cX1_can 9 = .ok (.invokestatic 87, 3) := by decide +kernel
theorem dX1_can_12 : decode cX1_can 12 = .ok (.istore 6, 2) := by decide +kernel
theorem dX1_can_14 : decode cX1_can 14 = .ok (.iload 4, 2) := by decide +kernel
theorem dX1_can_16 : decode cX1_can 16 = .ok (.bipush 12, 2) := by decide +kernel
theorem dX1_can_18 : decode cX1_can 18 = .ok (.irem, 1) := by decide +kernel
theorem dX1_can_19 : decode cX1_can 19 = .ok (.iload 5, 2) := by decide +kernel
theorem dX1_can_21 : decode cX1_can 21 = .ok (.iadd, 1) := by decide +kernel
theorem dX1_can_22 : decode cX1_can 22 = .ok (.bipush 12, 2) := by decide +kernel
theorem dX1_can_24 : decode cX1_can 24 = .ok (.if_icmp .gt 16, 3) := by decide +kernel
theorem dX1_can_27 : decode cX1_can 27 = .ok (.iload 4, 2) := by decide +kernel
theorem dX1_can_29 : decode cX1_can 29 = .ok (.bipush 12, 2) := by decide +kernel
theorem dX1_can_31 : decode cX1_can 31 = .ok (.idiv, 1) := by decide +kernel
theorem dX1_can_32 : decode cX1_can 32 = .ok (.iload 6, 2) := by decide +kernel
theorem dX1_can_34 : decode cX1_can 34 = .ok (.iadd, 1) := by decide +kernel
theorem dX1_can_35 : decode cX1_can 35 = .ok (.bipush 8, 2) := by decide +kernel
theorem dX1_can_37 : decode cX1_can 37 = .ok (.if_icmp .le 5, 3) := by decide +kernel
theorem dX1_can_40 : decode cX1_can 40 = .ok (.iconst 0, 1) := by decide +kernel
theorem dX1_can_41 : decode cX1_can 41 = .ok (.ireturn, 1) := by decide +kernel
theorem dX1_can_42 : decode cX1_can 42 = .ok (.iload_n 1, 1) := by decide +kernel
theorem dX1_can_43 : decode cX1_can 43 = .ok (.iload 4, 2) := by decide +kernel
theorem dX1_can_45 : decode cX1_can 45 = .ok (.iadd, 1) := by decide +kernel
theorem dX1_can_46 : decode cX1_can 46 = .ok (.istore 7, 2) := by decide +kernel
theorem dX1_can_48 : decode cX1_can 48 = .ok (.aload_n 0, 1) := by decide +kernel
theorem dX1_can_49 : decode cX1_can 49 = .ok (.iload 7, 2) := by decide +kernel
theorem dX1_can_51 : decode cX1_can 51 = .ok (.iload 5, 2) := by decide +kernel
theorem dX1_can_53 : decode cX1_can 53 = .ok (.iload 6, 2) := by decide +kernel
theorem dX1_can_55 : decode cX1_can 55 = .ok (.iconst 1, 1) := by decide +kernel
theorem dX1_can_56 : decode cX1_can 56 = .ok (.invokestatic 59, 3) := by decide +kernel
theorem dX1_can_59 : decode cX1_can 59 = .ok (.istore 8, 2) := by decide +kernel
theorem dX1_can_61 : decode cX1_can 61 = .ok (.aload_n 0, 1) := by decide +kernel
theorem dX1_can_62 : decode cX1_can 62 = .ok (.iload 7, 2) := by decide +kernel
theorem dX1_can_64 : decode cX1_can 64 = .ok (.iload 5, 2) := by decide +kernel
theorem dX1_can_66 : decode cX1_can 66 = .ok (.iload 6, 2) := by decide +kernel
theorem dX1_can_68 : decode cX1_can 68 = .ok (.iconst 0, 1) := by decide +kernel
theorem dX1_can_69 : decode cX1_can 69 = .ok (.invokestatic 59, 3) := by decide +kernel
theorem dX1_can_72 : decode cX1_can 72 = .ok (.iload 8, 2) := by decide +kernel
theorem dX1_can_74 : decode cX1_can 74 = .ok (.iadd, 1) := by decide +kernel
theorem dX1_can_75 : decode cX1_can 75 = .ok (.iload 5, 2) := by decide +kernel
theorem dX1_can_77 : decode cX1_can 77 = .ok (.iload 6, 2) := by decide +kernel
theorem dX1_can_79 : decode cX1_can 79 = .ok (.imul, 1) := by decide +kernel
theorem dX1_can_80 : decode cX1_can 80 = .ok (.if_icmp .ge 5, 3) := by decide +kernel
theorem dX1_can_83 : decode cX1_can 83 = .ok (.iconst 0, 1) := by decide +kernel
theorem dX1_can_84 : decode cX1_can 84 = .ok (.ireturn, 1) := by decide +kernel
theorem dX1_can_85 : decode cX1_can 85 = .ok (.iload_n 2, 1) := by decide +kernel
theorem dX1_can_86 : decode cX1_can 86 = .ok (.iconst 3, 1) := by decide +kernel
theorem dX1_can_87 : decode cX1_can 87 = .ok (.if_icmp .eq 17, 3) := by decide +kernel
theorem dX1_can_90 : decode cX1_can 90 = .ok (.iload 8, 2) := by decide +kernel
theorem dX1_can_92 : decode cX1_can 92 = .ok (.iload_n 2, 1) := by decide +kernel
theorem dX1_can_93 : decode cX1_can 93 = .ok (.ifCond .ne 7, 3) := by decide +kernel
theorem dX1_can_96 : decode cX1_can 96 = .ok (.iconst 0, 1) := by decide +kernel
theorem dX1_can_97 : decode cX1_can 97 = .ok (.goto 4, 3) := by decide +kernel
theorem dX1_can_100 : decode cX1_can 100 = .ok (.iconst 1, 1) := by decide +kernel
theorem dX1_can_101 : decode cX1_can 101 = .ok (.if_icmp .gt 7, 3) := by decide +kernel
theorem dX1_can_104 : decode cX1_can 104 = .ok (.iconst 1, 1) := by decide +kernel
theorem dX1_can_105 : decode cX1_can 105 = .ok (.goto 4, 3) := by decide +kernel
theorem dX1_can_108 : decode cX1_can 108 = .ok (.iconst 0, 1) := by decide +kernel
theorem dX1_can_109 : decode cX1_can 109 = .ok (.ireturn, 1) := by decide +kernel
set_option maxRecDepth 20000 in
theorem ggX1_first_X1_can : GoodIn wsX1_first wsX1_can := goodIn_r _ [4, 5, 6, 3, 7, 8, 9, 10, 11, 12, 13, 14, 15] (by decide +kernel) (by decide +kernel)
set_option maxRecDepth 20000 in
theorem gX1_first_X1_can : GoodIn wsX1_first (va_wsS RX1 90 yX1_can wsX1_can) := goodIn_app (goodIn_of _ (by decide +kernel)) ggX1_first_X1_can
theorem dX1_first_0 : decode cX1_first 0 = .ok (.iconst 0, 1) := by decide +kernel
theorem dX1_first_1 : decode cX1_first 1 = .ok (.istore 4, 2) := by decide +kernel
theorem dX1_first_3 : decode cX1_first 3 = .ok (.iload 4, 2) := by decide +kernel
theorem dX1_first_5 : decode cX1_first 5 = .ok (.bipush 96, 2) := by decide +kernel
theorem dX1_first_7 : decode cX1_first 7 = .ok (.if_icmp .ge 24, 3) := by decide +kernel
theorem dX1_first_10 : decode cX1_first 10 = .ok (.aload_n 0, 1) := by decide +kernel
theorem dX1_first_11 : decode cX1_first 11 = .ok (.iload_n 1, 1) := by decide +kernel
theorem dX1_first_12 : decode cX1_first 12 = .ok (.iload_n 2, 1) := by decide +kernel
theorem dX1_first_13 : decode cX1_first 13 = .ok (.iload_n 3, 1) := by decide +kernel
theorem dX1_first_14 : decode cX1_first 14 = .ok (.iload 4, 2) := by decide +kernel
theorem dX1_first_16 : decode cX1_first 16 = .ok (.invokestatic 90, 3) := by decide +kernel
theorem dX1_first_19 : decode cX1_first 19 = .ok (.ifCond .eq 6, 3) := by decide +kernel
theorem dX1_first_22 : decode cX1_first 22 = .ok (.iload 4, 2) := by decide +kernel
theorem dX1_first_24 : decode cX1_first 24 = .ok (.ireturn, 1) := by decide +kernel
theorem dX1_first_25 : decode cX1_first 25 = .ok (.iinc 4 1, 3) := by decide +kernel
theorem dX1_first_28 : decode cX1_first 28 = .ok (.goto (-25), 3) := by decide +kernel
theorem dX1_first_31 : decode cX1_first 31 = .ok (.iconst (-1), 1) := by decide +kernel
theorem dX1_first_32 : decode cX1_first 32 = .ok (.ireturn, 1) := by decide +kernel
set_option maxRecDepth 20000 in
theorem ggX1_cut_X1_isCell : GoodIn wsX1_cut wsX1_isCell := goodIn_r _ [12, 13, 14, 15, 11, 16, 17, 18, 19, 20, 45, 46, 47, 48, 49, 50, 51, 52, 53, 54, 55, 56] (by decide +kernel) (by decide +kernel)
set_option maxRecDepth 20000 in
theorem gX1_cut_X1_isCell : GoodIn wsX1_cut (wsV RX1 56 RX1 yX1_isCell wsX1_isCell) := goodIn_app (goodIn_of _ (by decide +kernel)) ggX1_cut_X1_isCell
set_option maxRecDepth 20000 in
theorem ggX1_cut_X1_no : GoodIn wsX1_cut wsX1_no := goodIn_r _ [24, 1, 45, 46, 47, 48, 49, 50, 51, 52, 53, 54, 55, 56] (by decide +kernel) (by decide +kernel)
set_option maxRecDepth 20000 in
theorem gX1_cut_X1_no : GoodIn wsX1_cut (wsV RX1 52 RX1 yX1_no wsX1_no) := goodIn_app (goodIn_of _ (by decide +kernel)) ggX1_cut_X1_no
set_option maxRecDepth 20000 in
theorem ggX1_cut_X1_isKind : GoodIn wsX1_cut wsX1_isKind := goodIn_r _ [27, 18, 19, 11, 20] (by decide +kernel) (by decide +kernel)
set_option maxRecDepth 20000 in
theorem gX1_cut_X1_isKind : GoodIn wsX1_cut (va_wsS RX1 94 yX1_isKind wsX1_isKind) := goodIn_app (goodIn_of _ (by decide +kernel)) ggX1_cut_X1_isKind
set_option maxRecDepth 20000 in
theorem ggX1_cut_X1_can : GoodIn wsX1_cut wsX1_can := goodIn_r _ [30, 31, 32, 11, 33, 34, 35, 36, 37, 38, 39, 40, 41] (by decide +kernel) (by decide +kernel)
set_option maxRecDepth 20000 in
theorem gX1_cut_X1_can : GoodIn wsX1_cut (va_wsS RX1 90 yX1_can wsX1_can) := goodIn_app (goodIn_of _ (by decide +kernel)) ggX1_cut_X1_can
set_option maxRecDepth 20000 in
theorem ggX1_cut_X1_wideOf : GoodIn wsX1_cut wsX1_wideOf := goodIn_r _ [33, 34, 35] (by decide +kernel) (by decide +kernel)
set_option maxRecDepth 20000 in
theorem gX1_cut_X1_wideOf : GoodIn wsX1_cut (va_wsS RX1 83 yX1_wideOf wsX1_wideOf) := goodIn_app (goodIn_of _ (by decide +kernel)) ggX1_cut_X1_wideOf
set_option maxRecDepth 20000 in
theorem ggX1_cut_X1_highOf : GoodIn wsX1_cut wsX1_highOf := goodIn_r _ [38, 35, 34] (by decide +kernel) (by decide +kernel)
set_option maxRecDepth 20000 in
theorem gX1_cut_X1_highOf : GoodIn wsX1_cut (va_wsS RX1 87 yX1_highOf wsX1_highOf) := goodIn_app (goodIn_of _ (by decide +kernel)) ggX1_cut_X1_highOf
set_option maxRecDepth 20000 in
theorem ggX1_cut_X1_many : GoodIn wsX1_cut wsX1_many := goodIn_r _ [41] (by decide +kernel) (by decide +kernel)
set_option maxRecDepth 20000 in
theorem gX1_cut_X1_many : GoodIn wsX1_cut (va_wsS RX1 59 yX1_many wsX1_many) := goodIn_app (goodIn_of _ (by decide +kernel)) ggX1_cut_X1_many
set_option maxRecDepth 20000 in
theorem ggX1_cut_X1_fill : GoodIn wsX1_cut wsX1_fill := goodIn_r _ [44] (by decide +kernel) (by decide +kernel)
set_option maxRecDepth 20000 in
theorem gX1_cut_X1_fill : GoodIn wsX1_cut (va_wsS RX1 63 yX1_fill wsX1_fill) := goodIn_app (goodIn_of _ (by decide +kernel)) ggX1_cut_X1_fill
theorem dX1_cut_0 : decode cX1_cut 0 = .ok (.aload_n 0, 1) := by decide +kernel
theorem dX1_cut_1 : decode cX1_cut 1 = .ok (.iconst 0, 1) := by decide +kernel
theorem dX1_cut_2 : decode cX1_cut 2 = .ok (.putfield 34, 3) := by decide +kernel
theorem dX1_cut_5 : decode cX1_cut 5 = .ok (.aload_n 0, 1) := by decide +kernel
theorem dX1_cut_6 : decode cX1_cut 6 = .ok (.iload_n 1, 1) := by decide +kernel
theorem dX1_cut_7 : decode cX1_cut 7 = .ok (.iload 4, 2) := by decide +kernel
theorem dX1_cut_9 : decode cX1_cut 9 = .ok (.iload 5, 2) := by decide +kernel
theorem dX1_cut_11 : decode cX1_cut 11 = .ok (.invokevirtual 56, 3) := by decide +kernel
theorem dX1_cut_14 : decode cX1_cut 14 = .ok (.ifCond .ne 9, 3) := by decide +kernel
theorem dX1_cut_17 : decode cX1_cut 17 = .ok (.aload_n 0, 1) := by decide +kernel
theorem dX1_cut_18 : decode cX1_cut 18 = .ok (.iconst 1, 1) := by decide +kernel
theorem dX1_cut_19 : decode cX1_cut 19 = .ok (.invokevirtual 52, 3) := by decide +kernel
theorem dX1_cut_22 : decode cX1_cut 22 = .ok (.ireturn, 1) := by decide +kernel
theorem dX1_cut_23 : decode cX1_cut 23 = .ok (.iload_n 2, 1) := by decide +kernel
theorem dX1_cut_24 : decode cX1_cut 24 = .ok (.invokestatic 94, 3) := by decide +kernel
theorem dX1_cut_27 : decode cX1_cut 27 = .ok (.ifCond .ne 9, 3) := by decide +kernel
theorem dX1_cut_30 : decode cX1_cut 30 = .ok (.aload_n 0, 1) := by decide +kernel
theorem dX1_cut_31 : decode cX1_cut 31 = .ok (.iconst 2, 1) := by decide +kernel
theorem dX1_cut_32 : decode cX1_cut 32 = .ok (.invokevirtual 52, 3) := by decide +kernel
theorem dX1_cut_35 : decode cX1_cut 35 = .ok (.ireturn, 1) := by decide +kernel
theorem dX1_cut_36 : decode cX1_cut 36 = .ok (.bipush 12, 2) := by decide +kernel
theorem dX1_cut_38 : decode cX1_cut 38 = .ok (.iload 5, 2) := by decide +kernel
theorem dX1_cut_40 : decode cX1_cut 40 = .ok (.imul, 1) := by decide +kernel
theorem dX1_cut_41 : decode cX1_cut 41 = .ok (.iload 4, 2) := by decide +kernel
theorem dX1_cut_43 : decode cX1_cut 43 = .ok (.iadd, 1) := by decide +kernel
theorem dX1_cut_44 : decode cX1_cut 44 = .ok (.istore 6, 2) := by decide +kernel
theorem dX1_cut_46 : decode cX1_cut 46 = .ok (.aload_n 0, 1) := by decide +kernel
theorem dX1_cut_47 : decode cX1_cut 47 = .ok (.getfield 67, 3) := by decide +kernel
theorem dX1_cut_50 : decode cX1_cut 50 = .ok (.sipush 150, 3) := by decide +kernel
theorem dX1_cut_53 : decode cX1_cut 53 = .ok (.if_icmp .eq 21, 3) := by decide +kernel
theorem dX1_cut_56 : decode cX1_cut 56 = .ok (.aload_n 0, 1) := by decide +kernel
theorem dX1_cut_57 : decode cX1_cut 57 = .ok (.getfield 13, 3) := by decide +kernel
theorem dX1_cut_60 : decode cX1_cut 60 = .ok (.bipush 96, 2) := by decide +kernel
theorem dX1_cut_62 : decode cX1_cut 62 = .ok (.iload_n 1, 1) := by decide +kernel
theorem dX1_cut_63 : decode cX1_cut 63 = .ok (.imul, 1) := by decide +kernel
theorem dX1_cut_64 : decode cX1_cut 64 = .ok (.iload_n 2, 1) := by decide +kernel
theorem dX1_cut_65 : decode cX1_cut 65 = .ok (.iload_n 3, 1) := by decide +kernel
theorem dX1_cut_66 : decode cX1_cut 66 = .ok (.iload 6, 2) := by decide +kernel
theorem dX1_cut_68 : decode cX1_cut 68 = .ok (.invokestatic 90, 3) := by decide +kernel
theorem dX1_cut_71 : decode cX1_cut 71 = .ok (.ifCond .ne 9, 3) := by decide +kernel
theorem dX1_cut_74 : decode cX1_cut 74 = .ok (.aload_n 0, 1) := by decide +kernel
theorem dX1_cut_75 : decode cX1_cut 75 = .ok (.iconst 3, 1) := by decide +kernel
theorem dX1_cut_76 : decode cX1_cut 76 = .ok (.invokevirtual 52, 3) := by decide +kernel
theorem dX1_cut_79 : decode cX1_cut 79 = .ok (.ireturn, 1) := by decide +kernel
theorem dX1_cut_80 : decode cX1_cut 80 = .ok (.bipush 96, 2) := by decide +kernel
theorem dX1_cut_82 : decode cX1_cut 82 = .ok (.iload_n 1, 1) := by decide +kernel
theorem dX1_cut_83 : decode cX1_cut 83 = .ok (.imul, 1) := by decide +kernel
theorem dX1_cut_84 : decode cX1_cut 84 = .ok (.iload 6, 2) := by decide +kernel
theorem dX1_cut_86 : decode cX1_cut 86 = .ok (.iadd, 1) := by decide +kernel
theorem dX1_cut_87 : decode cX1_cut 87 = .ok (.istore 7, 2) := by decide +kernel
theorem dX1_cut_89 : decode cX1_cut 89 = .ok (.aload_n 0, 1) := by decide +kernel
theorem dX1_cut_90 : decode cX1_cut 90 = .ok (.getfield 16, 3) := by decide +kernel
theorem dX1_cut_93 : decode cX1_cut 93 = .ok (.aload_n 0, 1) := by decide +kernel
theorem dX1_cut_94 : decode cX1_cut 94 = .ok (.getfield 67, 3) := by decide +kernel
theorem dX1_cut_97 : decode cX1_cut 97 = .ok (.iload_n 1, 1) := by decide +kernel
theorem dX1_cut_98 : decode cX1_cut 98 = .ok (.iastore, 1) := by decide +kernel
theorem dX1_cut_99 : decode cX1_cut 99 = .ok (.aload_n 0, 1) := by decide +kernel
theorem dX1_cut_100 : decode cX1_cut 100 = .ok (.getfield 19, 3) := by decide +kernel
theorem dX1_cut_103 : decode cX1_cut 103 = .ok (.aload_n 0, 1) := by decide +kernel
theorem dX1_cut_104 : decode cX1_cut 104 = .ok (.getfield 67, 3) := by decide +kernel
theorem dX1_cut_107 : decode cX1_cut 107 = .ok (.iload_n 2, 1) := by decide +kernel
theorem dX1_cut_108 : decode cX1_cut 108 = .ok (.iastore, 1) := by decide +kernel
theorem dX1_cut_109 : decode cX1_cut 109 = .ok (.aload_n 0, 1) := by decide +kernel
theorem dX1_cut_110 : decode cX1_cut 110 = .ok (.getfield 22, 3) := by decide +kernel
theorem dX1_cut_113 : decode cX1_cut 113 = .ok (.aload_n 0, 1) := by decide +kernel
theorem dX1_cut_114 : decode cX1_cut 114 = .ok (.getfield 67, 3) := by decide +kernel
theorem dX1_cut_117 : decode cX1_cut 117 = .ok (.iconst (-1), 1) := by decide +kernel
theorem dX1_cut_118 : decode cX1_cut 118 = .ok (.iastore, 1) := by decide +kernel
theorem dX1_cut_119 : decode cX1_cut 119 = .ok (.aload_n 0, 1) := by decide +kernel
theorem dX1_cut_120 : decode cX1_cut 120 = .ok (.getfield 25, 3) := by decide +kernel
theorem dX1_cut_123 : decode cX1_cut 123 = .ok (.aload_n 0, 1) := by decide +kernel
theorem dX1_cut_124 : decode cX1_cut 124 = .ok (.getfield 67, 3) := by decide +kernel
theorem dX1_cut_127 : decode cX1_cut 127 = .ok (.aload_n 0, 1) := by decide +kernel
theorem dX1_cut_128 : decode cX1_cut 128 = .ok (.getfield 13, 3) := by decide +kernel
theorem dX1_cut_131 : decode cX1_cut 131 = .ok (.iload 7, 2) := by decide +kernel
theorem dX1_cut_133 : decode cX1_cut 133 = .ok (.iload_n 2, 1) := by decide +kernel
theorem dX1_cut_134 : decode cX1_cut 134 = .ok (.iload_n 3, 1) := by decide +kernel
theorem dX1_cut_135 : decode cX1_cut 135 = .ok (.invokestatic 83, 3) := by decide +kernel
theorem dX1_cut_138 : decode cX1_cut 138 = .ok (.iload_n 2, 1) := by decide +kernel
theorem dX1_cut_139 : decode cX1_cut 139 = .ok (.iload_n 3, 1) := by decide +kernel
theorem dX1_cut_140 : decode cX1_cut 140 = .ok (.invokestatic 87, 3) := by decide +kernel
theorem dX1_cut_143 : decode cX1_cut 143 = .ok (.iconst 1, 1) := by decide +kernel
theorem dX1_cut_144 : decode cX1_cut 144 = .ok (.invokestatic 59, 3) := by decide +kernel
theorem dX1_cut_147 : decode cX1_cut 147 = .ok (.iastore, 1) := by decide +kernel
theorem dX1_cut_148 : decode cX1_cut 148 = .ok (.aload_n 0, 1) := by decide +kernel
theorem dX1_cut_149 : decode cX1_cut 149 = .ok (.getfield 13, 3) := by decide +kernel
theorem dX1_cut_152 : decode cX1_cut 152 = .ok (.iload 7, 2) := by decide +kernel
theorem dX1_cut_154 : decode cX1_cut 154 = .ok (.iload_n 2, 1) := by decide +kernel
theorem dX1_cut_155 : decode cX1_cut 155 = .ok (.iload_n 3, 1) := by decide +kernel
theorem dX1_cut_156 : decode cX1_cut 156 = .ok (.invokestatic 83, 3) := by decide +kernel
theorem dX1_cut_159 : decode cX1_cut 159 = .ok (.iload_n 2, 1) := by decide +kernel
theorem dX1_cut_160 : decode cX1_cut 160 = .ok (.iload_n 3, 1) := by decide +kernel
theorem dX1_cut_161 : decode cX1_cut 161 = .ok (.invokestatic 87, 3) := by decide +kernel
theorem dX1_cut_164 : decode cX1_cut 164 = .ok (.iconst 3, 1) := by decide +kernel
theorem dX1_cut_165 : decode cX1_cut 165 = .ok (.invokestatic 63, 3) := by decide +kernel
theorem dX1_cut_168 : decode cX1_cut 168 = .ok (.aload_n 0, 1) := by decide +kernel
theorem dX1_cut_169 : decode cX1_cut 169 = .ok (.dup, 1) := by decide +kernel
theorem dX1_cut_170 : decode cX1_cut 170 = .ok (.getfield 67, 3) := by decide +kernel
theorem dX1_cut_173 : decode cX1_cut 173 = .ok (.iconst 1, 1) := by decide +kernel
theorem dX1_cut_174 : decode cX1_cut 174 = .ok (.iadd, 1) := by decide +kernel
theorem dX1_cut_175 : decode cX1_cut 175 = .ok (.putfield 67, 3) := by decide +kernel
theorem dX1_cut_178 : decode cX1_cut 178 = .ok (.aload_n 0, 1) := by decide +kernel
theorem dX1_cut_179 : decode cX1_cut 179 = .ok (.getfield 67, 3) := by decide +kernel
theorem dX1_cut_182 : decode cX1_cut 182 = .ok (.iconst 1, 1) := by decide +kernel
theorem dX1_cut_183 : decode cX1_cut 183 = .ok (.isub, 1) := by decide +kernel
theorem dX1_cut_184 : decode cX1_cut 184 = .ok (.ireturn, 1) := by decide +kernel
set_option maxRecDepth 20000 in
theorem ggX1_place_X1_isSkin : GoodIn wsX1_place wsX1_isSkin := goodIn_r _ [7, 8, 9, 10, 6, 11, 36, 37, 38, 39, 40, 41, 42, 43, 44, 45, 46, 47] (by decide +kernel) (by decide +kernel)
set_option maxRecDepth 20000 in
theorem gX1_place_X1_isSkin : GoodIn wsX1_place (wsV RX1 45 RX1 yX1_isSkin wsX1_isSkin) := goodIn_app (goodIn_of _ (by decide +kernel)) ggX1_place_X1_isSkin
set_option maxRecDepth 20000 in
theorem ggX1_place_X1_no : GoodIn wsX1_place wsX1_no := goodIn_r _ [15, 1, 36, 37, 38, 39, 40, 41, 42, 43, 44, 45, 46, 47] (by decide +kernel) (by decide +kernel)
set_option maxRecDepth 20000 in
theorem gX1_place_X1_no : GoodIn wsX1_place (wsV RX1 52 RX1 yX1_no wsX1_no) := goodIn_app (goodIn_of _ (by decide +kernel)) ggX1_place_X1_no
set_option maxRecDepth 20000 in
theorem ggX1_place_X1_isKind : GoodIn wsX1_place wsX1_isKind := goodIn_r _ [18, 9, 10, 6, 11] (by decide +kernel) (by decide +kernel)
set_option maxRecDepth 20000 in
theorem gX1_place_X1_isKind : GoodIn wsX1_place (va_wsS RX1 94 yX1_isKind wsX1_isKind) := goodIn_app (goodIn_of _ (by decide +kernel)) ggX1_place_X1_isKind
set_option maxRecDepth 20000 in
theorem ggX1_place_X1_first : GoodIn wsX1_place wsX1_first := goodIn_r _ [21, 22, 23, 6, 24, 25, 26, 27, 28, 29, 30, 31, 32, 33, 34, 35] (by decide +kernel) (by decide +kernel)
set_option maxRecDepth 20000 in
theorem gX1_place_X1_first : GoodIn wsX1_place (va_wsS RX1 97 yX1_first wsX1_first) := goodIn_app (goodIn_of _ (by decide +kernel)) ggX1_place_X1_first
theorem dX1_place_0 : decode cX1_place 0 = .ok (.aload_n 0, 1) := by decide +kernel
theorem dX1_place_1 : decode cX1_place 1 = .ok (.iconst 0, 1) := by decide +kernel
theorem dX1_place_2 : decode cX1_place 2 = .ok (.putfield 34, 3) := by decide +kernel
theorem dX1_place_5 : decode cX1_place 5 = .ok (.aload_n 0, 1) := by decide +kernel
theorem dX1_place_6 : decode cX1_place 6 = .ok (.iload_n 1, 1) := by decide +kernel
theorem dX1_place_7 : decode cX1_place 7 = .ok (.invokevirtual 45, 3) := by decide +kernel
theorem dX1_place_10 : decode cX1_place 10 = .ok (.ifCond .ne 9, 3) := by decide +kernel
theorem dX1_place_13 : decode cX1_place 13 = .ok (.aload_n 0, 1) := by decide +kernel
theorem dX1_place_14 : decode cX1_place 14 = .ok (.iconst 1, 1) := by decide +kernel
theorem dX1_place_15 : decode cX1_place 15 = .ok (.invokevirtual 52, 3) := by decide +kernel
theorem dX1_place_18 : decode cX1_place 18 = .ok (.ireturn, 1) := by decide +kernel
theorem dX1_place_19 : decode cX1_place 19 = .ok (.iload_n 2, 1) := by decide +kernel
theorem dX1_place_20 : decode cX1_place 20 = .ok (.invokestatic 94, 3) := by decide +kernel
theorem dX1_place_23 : decode cX1_place 23 = .ok (.ifCond .eq 19, 3) := by decide +kernel
theorem dX1_place_26 : decode cX1_place 26 = .ok (.aload_n 0, 1) := by decide +kernel
theorem dX1_place_27 : decode cX1_place 27 = .ok (.getfield 13, 3) := by decide +kernel
theorem dX1_place_30 : decode cX1_place 30 = .ok (.bipush 96, 2) := by decide +kernel
theorem dX1_place_32 : decode cX1_place 32 = .ok (.iload_n 1, 1) := by decide +kernel
theorem dX1_place_33 : decode cX1_place 33 = .ok (.imul, 1) := by decide +kernel
theorem dX1_place_34 : decode cX1_place 34 = .ok (.iload_n 2, 1) := by decide +kernel
theorem dX1_place_35 : decode cX1_place 35 = .ok (.iload_n 3, 1) := by decide +kernel
theorem dX1_place_36 : decode cX1_place 36 = .ok (.invokestatic 97, 3) := by decide +kernel
theorem dX1_place_39 : decode cX1_place 39 = .ok (.goto 8, 3) := by decide +kernel
theorem dX1_place_42 : decode cX1_place 42 = .ok (.aload_n 0, 1) := by decide +kernel
theorem dX1_place_43 : decode cX1_place 43 = .ok (.iconst 2, 1) := by decide +kernel
theorem dX1_place_44 : decode cX1_place 44 = .ok (.invokevirtual 52, 3) := by decide +kernel
theorem dX1_place_47 : decode cX1_place 47 = .ok (.ireturn, 1) := by decide +kernel
theorem dX1_pieceTold_0 : decode cX1_pieceTold 0 = .ok (.iload_n 2, 1) := by decide +kernel
theorem dX1_pieceTold_1 : decode cX1_pieceTold 1 = .ok (.ifCond .ne 12, 3) := by decide +kernel
theorem dX1_pieceTold_4 : decode cX1_pieceTold 4 = .ok (.aload_n 0, 1) := by decide +kernel
theorem dX1_pieceTold_5 : decode cX1_pieceTold 5 = .ok (.getfield 16, 3) := by decide +kernel
theorem dX1_pieceTold_8 : decode cX1_pieceTold 8 = .ok (.iload_n 1, 1) := by decide +kernel
theorem dX1_pieceTold_9 : decode cX1_pieceTold 9 = .ok (.iaload, 1) := by decide +kernel
theorem dX1_pieceTold_10 : decode cX1_pieceTold 10 = .ok (.goto 37, 3) := by decide +kernel
theorem dX1_pieceTold_13 : decode cX1_pieceTold 13 = .ok (.iload_n 2, 1) := by decide +kernel
theorem dX1_pieceTold_14 : decode cX1_pieceTold 14 = .ok (.iconst 1, 1) := by decide +kernel
theorem dX1_pieceTold_15 : decode cX1_pieceTold 15 = .ok (.if_icmp .ne 12, 3) := by decide +kernel
theorem dX1_pieceTold_18 : decode cX1_pieceTold 18 = .ok (.aload_n 0, 1) := by decide +kernel
theorem dX1_pieceTold_19 : decode cX1_pieceTold 19 = .ok (.getfield 19, 3) := by decide +kernel
theorem dX1_pieceTold_22 : decode cX1_pieceTold 22 = .ok (.iload_n 1, 1) := by decide +kernel
theorem dX1_pieceTold_23 : decode cX1_pieceTold 23 = .ok (.iaload, 1) := by decide +kernel
theorem dX1_pieceTold_24 : decode cX1_pieceTold 24 = .ok (.goto 23, 3) := by decide +kernel
theorem dX1_pieceTold_27 : decode cX1_pieceTold 27 = .ok (.iload_n 2, 1) := by decide +kernel
theorem dX1_pieceTold_28 : decode cX1_pieceTold 28 = .ok (.iconst 2, 1) := by decide +kernel
theorem dX1_pieceTold_29 : decode cX1_pieceTold 29 = .ok (.if_icmp .ne 12, 3) := by decide +kernel
theorem dX1_pieceTold_32 : decode cX1_pieceTold 32 = .ok (.aload_n 0, 1) := by decide +kernel
theorem dX1_pieceTold_33 : decode cX1_pieceTold 33 = .ok (.getfield 22, 3) := by decide +kernel
theorem dX1_pieceTold_36 : decode cX1_pieceTold 36 = .ok (.iload_n 1, 1) := by decide +kernel
theorem dX1_pieceTold_37 : decode cX1_pieceTold 37 = .ok (.iaload, 1) := by decide +kernel
theorem dX1_pieceTold_38 : decode cX1_pieceTold 38 = .ok (.goto 9, 3) := by decide +kernel
theorem dX1_pieceTold_41 : decode cX1_pieceTold 41 = .ok (.aload_n 0, 1) := by decide +kernel
theorem dX1_pieceTold_42 : decode cX1_pieceTold 42 = .ok (.getfield 25, 3) := by decide +kernel
theorem dX1_pieceTold_45 : decode cX1_pieceTold 45 = .ok (.iload_n 1, 1) := by decide +kernel
theorem dX1_pieceTold_46 : decode cX1_pieceTold 46 = .ok (.iaload, 1) := by decide +kernel
theorem dX1_pieceTold_47 : decode cX1_pieceTold 47 = .ok (.ireturn, 1) := by decide +kernel
set_option maxRecDepth 20000 in
theorem ggX1_piece_X1_isIn : GoodIn wsX1_piece wsX1_isIn := goodIn_r _ [6] (by decide +kernel) (by decide +kernel)
set_option maxRecDepth 20000 in
theorem gX1_piece_X1_isIn : GoodIn wsX1_piece (va_wsS RX1 41 yX1_isIn wsX1_isIn) := goodIn_app (goodIn_of _ (by decide +kernel)) ggX1_piece_X1_isIn
set_option maxRecDepth 20000 in
theorem ggX1_piece_X1_pieceTold : GoodIn wsX1_piece wsX1_pieceTold := goodIn_r _ [10, 11, 12, 13, 14, 19, 20, 21, 22, 23, 24, 25, 26, 27, 28, 29, 30] (by decide +kernel) (by decide +kernel)
set_option maxRecDepth 20000 in
theorem gX1_piece_X1_pieceTold : GoodIn wsX1_piece (wsV RX1 101 RX1 yX1_pieceTold wsX1_pieceTold) := goodIn_app (goodIn_of _ (by decide +kernel)) ggX1_piece_X1_pieceTold
set_option maxRecDepth 20000 in
theorem ggX1_piece_X1_no : GoodIn wsX1_piece wsX1_no := goodIn_r _ [18, 1, 19, 20, 21, 22, 23, 24, 25, 26, 27, 28, 29, 30] (by decide +kernel) (by decide +kernel)
set_option maxRecDepth 20000 in
theorem gX1_piece_X1_no : GoodIn wsX1_piece (wsV RX1 52 RX1 yX1_no wsX1_no) := goodIn_app (goodIn_of _ (by decide +kernel)) ggX1_piece_X1_no
theorem dX1_piece_0 : decode cX1_piece 0 = .ok (.aload_n 0, 1) := by decide +kernel
theorem dX1_piece_1 : decode cX1_piece 1 = .ok (.iconst 0, 1) := by decide +kernel
theorem dX1_piece_2 : decode cX1_piece 2 = .ok (.putfield 34, 3) := by decide +kernel
theorem dX1_piece_5 : decode cX1_piece 5 = .ok (.iload_n 1, 1) := by decide +kernel
theorem dX1_piece_6 : decode cX1_piece 6 = .ok (.iconst 0, 1) := by decide +kernel
theorem dX1_piece_7 : decode cX1_piece 7 = .ok (.aload_n 0, 1) := by decide +kernel
theorem dX1_piece_8 : decode cX1_piece 8 = .ok (.getfield 67, 3) := by decide +kernel
theorem dX1_piece_11 : decode cX1_piece 11 = .ok (.iconst 1, 1) := by decide +kernel
theorem dX1_piece_12 : decode cX1_piece 12 = .ok (.isub, 1) := by decide +kernel
theorem dX1_piece_13 : decode cX1_piece 13 = .ok (.invokestatic 41, 3) := by decide +kernel
theorem dX1_piece_16 : decode cX1_piece 16 = .ok (.ifCond .eq 21, 3) := by decide +kernel
theorem dX1_piece_19 : decode cX1_piece 19 = .ok (.iload_n 2, 1) := by decide +kernel
theorem dX1_piece_20 : decode cX1_piece 20 = .ok (.iconst 0, 1) := by decide +kernel
theorem dX1_piece_21 : decode cX1_piece 21 = .ok (.iconst 3, 1) := by decide +kernel
theorem dX1_piece_22 : decode cX1_piece 22 = .ok (.invokestatic 41, 3) := by decide +kernel
theorem dX1_piece_25 : decode cX1_piece 25 = .ok (.ifCond .eq 12, 3) := by decide +kernel
theorem dX1_piece_28 : decode cX1_piece 28 = .ok (.aload_n 0, 1) := by decide +kernel
theorem dX1_piece_29 : decode cX1_piece 29 = .ok (.iload_n 1, 1) := by decide +kernel
theorem dX1_piece_30 : decode cX1_piece 30 = .ok (.iload_n 2, 1) := by decide +kernel
theorem dX1_piece_31 : decode cX1_piece 31 = .ok (.invokevirtual 101, 3) := by decide +kernel
theorem dX1_piece_34 : decode cX1_piece 34 = .ok (.goto 8, 3) := by decide +kernel
theorem dX1_piece_37 : decode cX1_piece 37 = .ok (.aload_n 0, 1) := by decide +kernel
theorem dX1_piece_38 : decode cX1_piece 38 = .ok (.iconst 1, 1) := by decide +kernel
theorem dX1_piece_39 : decode cX1_piece 39 = .ok (.invokevirtual 52, 3) := by decide +kernel
theorem dX1_piece_42 : decode cX1_piece 42 = .ok (.ireturn, 1) := by decide +kernel
theorem dX1_isFree_0 : decode cX1_isFree 0 = .ok (.aload_n 0, 1) := by decide +kernel
theorem dX1_isFree_1 : decode cX1_isFree 1 = .ok (.getfield 22, 3) := by decide +kernel
theorem dX1_isFree_4 : decode cX1_isFree 4 = .ok (.iload_n 1, 1) := by decide +kernel
theorem dX1_isFree_5 : decode cX1_isFree 5 = .ok (.iaload, 1) := by decide +kernel
theorem dX1_isFree_6 : decode cX1_isFree 6 = .ok (.iconst (-1), 1) := by decide +kernel
theorem dX1_isFree_7 : decode cX1_isFree 7 = .ok (.if_icmp .ne 32, 3) := by decide +kernel
theorem dX1_isFree_10 : decode cX1_isFree 10 = .ok (.aload_n 0, 1) := by decide +kernel
theorem dX1_isFree_11 : decode cX1_isFree 11 = .ok (.getfield 19, 3) := by decide +kernel
theorem dX1_isFree_14 : decode cX1_isFree 14 = .ok (.iload_n 1, 1) := by decide +kernel
theorem dX1_isFree_15 : decode cX1_isFree 15 = .ok (.iaload, 1) := by decide +kernel
theorem dX1_isFree_16 : decode cX1_isFree 16 = .ok (.iload_n 3, 1) := by decide +kernel
theorem dX1_isFree_17 : decode cX1_isFree 17 = .ok (.if_icmp .ne 22, 3) := by decide +kernel
theorem dX1_isFree_20 : decode cX1_isFree 20 = .ok (.aload_n 0, 1) := by decide +kernel
theorem dX1_isFree_21 : decode cX1_isFree 21 = .ok (.getfield 9, 3) := by decide +kernel
theorem dX1_isFree_24 : decode cX1_isFree 24 = .ok (.aload_n 0, 1) := by decide +kernel
theorem dX1_isFree_25 : decode cX1_isFree 25 = .ok (.getfield 16, 3) := by decide +kernel
theorem dX1_isFree_28 : decode cX1_isFree 28 = .ok (.iload_n 1, 1) := by decide +kernel
theorem dX1_isFree_29 : decode cX1_isFree 29 = .ok (.iaload, 1) := by decide +kernel
theorem dX1_isFree_30 : decode cX1_isFree 30 = .ok (.iaload, 1) := by decide +kernel
theorem dX1_isFree_31 : decode cX1_isFree 31 = .ok (.iload_n 2, 1) := by decide +kernel
theorem dX1_isFree_32 : decode cX1_isFree 32 = .ok (.if_icmp .ne 7, 3) := by decide +kernel
theorem dX1_isFree_35 : decode cX1_isFree 35 = .ok (.iconst 1, 1) := by decide +kernel
theorem dX1_isFree_36 : decode cX1_isFree 36 = .ok (.goto 4, 3) := by decide +kernel
theorem dX1_isFree_39 : decode cX1_isFree 39 = .ok (.iconst 0, 1) := by decide +kernel
theorem dX1_isFree_40 : decode cX1_isFree 40 = .ok (.ireturn, 1) := by decide +kernel
set_option maxRecDepth 20000 in
theorem ggX1_free_X1_isFree : GoodIn wsX1_free wsX1_isFree := goodIn_r _ [6, 7, 8, 9, 10, 11, 12, 13, 14, 15, 16, 17, 18, 19, 20, 21, 22] (by decide +kernel) (by decide +kernel)
set_option maxRecDepth 20000 in
theorem gX1_free_X1_isFree : GoodIn wsX1_free (wsV RX1 104 RX1 yX1_isFree wsX1_isFree) := goodIn_app (goodIn_of _ (by decide +kernel)) ggX1_free_X1_isFree
theorem dX1_free_0 : decode cX1_free 0 = .ok (.iconst 0, 1) := by decide +kernel
theorem dX1_free_1 : decode cX1_free 1 = .ok (.istore_n 3, 1) := by decide +kernel
theorem dX1_free_2 : decode cX1_free 2 = .ok (.iconst 0, 1) := by decide +kernel
theorem dX1_free_3 : decode cX1_free 3 = .ok (.istore 4, 2) := by decide +kernel
theorem dX1_free_5 : decode cX1_free 5 = .ok (.iload 4, 2) := by decide +kernel
theorem dX1_free_7 : decode cX1_free 7 = .ok (.aload_n 0, 1) := by decide +kernel
theorem dX1_free_8 : decode cX1_free 8 = .ok (.getfield 67, 3) := by decide +kernel
theorem dX1_free_11 : decode cX1_free 11 = .ok (.if_icmp .ge 28, 3) := by decide +kernel
theorem dX1_free_14 : decode cX1_free 14 = .ok (.iload_n 3, 1) := by decide +kernel
theorem dX1_free_15 : decode cX1_free 15 = .ok (.aload_n 0, 1) := by decide +kernel
theorem dX1_free_16 : decode cX1_free 16 = .ok (.iload 4, 2) := by decide +kernel
theorem dX1_free_18 : decode cX1_free 18 = .ok (.iload_n 1, 1) := by decide +kernel
theorem dX1_free_19 : decode cX1_free 19 = .ok (.iload_n 2, 1) := by decide +kernel
theorem dX1_free_20 : decode cX1_free 20 = .ok (.invokevirtual 104, 3) := by decide +kernel
theorem dX1_free_23 : decode cX1_free 23 = .ok (.ifCond .eq 7, 3) := by decide +kernel
theorem dX1_free_26 : decode cX1_free 26 = .ok (.iconst 1, 1) := by decide +kernel
theorem dX1_free_27 : decode cX1_free 27 = .ok (.goto 4, 3) := by decide +kernel
theorem dX1_free_30 : decode cX1_free 30 = .ok (.iconst 0, 1) := by decide +kernel
theorem dX1_free_31 : decode cX1_free 31 = .ok (.iadd, 1) := by decide +kernel
theorem dX1_free_32 : decode cX1_free 32 = .ok (.istore_n 3, 1) := by decide +kernel
theorem dX1_free_33 : decode cX1_free 33 = .ok (.iinc 4 1, 3) := by decide +kernel
theorem dX1_free_36 : decode cX1_free 36 = .ok (.goto (-31), 3) := by decide +kernel
theorem dX1_free_39 : decode cX1_free 39 = .ok (.iload_n 3, 1) := by decide +kernel
theorem dX1_free_40 : decode cX1_free 40 = .ok (.ireturn, 1) := by decide +kernel
set_option maxRecDepth 20000 in
theorem ggX1_tranks_X1_isFree : GoodIn wsX1_tranks wsX1_isFree := goodIn_r _ [8, 9, 10, 3, 2, 11, 12, 13, 14, 15, 16, 17, 18, 19, 20, 21, 22] (by decide +kernel) (by decide +kernel)
set_option maxRecDepth 20000 in
theorem gX1_tranks_X1_isFree : GoodIn wsX1_tranks (wsV RX1 104 RX1 yX1_isFree wsX1_isFree) := goodIn_app (goodIn_of _ (by decide +kernel)) ggX1_tranks_X1_isFree
theorem dX1_tranks_0 : decode cX1_tranks 0 = .ok (.iconst 0, 1) := by decide +kernel
theorem dX1_tranks_1 : decode cX1_tranks 1 = .ok (.istore_n 2, 1) := by decide +kernel
theorem dX1_tranks_2 : decode cX1_tranks 2 = .ok (.iconst 0, 1) := by decide +kernel
theorem dX1_tranks_3 : decode cX1_tranks 3 = .ok (.istore_n 3, 1) := by decide +kernel
theorem dX1_tranks_4 : decode cX1_tranks 4 = .ok (.iload_n 3, 1) := by decide +kernel
theorem dX1_tranks_5 : decode cX1_tranks 5 = .ok (.aload_n 0, 1) := by decide +kernel
theorem dX1_tranks_6 : decode cX1_tranks 6 = .ok (.getfield 67, 3) := by decide +kernel
theorem dX1_tranks_9 : decode cX1_tranks 9 = .ok (.if_icmp .ge 42, 3) := by decide +kernel
theorem dX1_tranks_12 : decode cX1_tranks 12 = .ok (.iload_n 2, 1) := by decide +kernel
theorem dX1_tranks_13 : decode cX1_tranks 13 = .ok (.aload_n 0, 1) := by decide +kernel
theorem dX1_tranks_14 : decode cX1_tranks 14 = .ok (.getfield 16, 3) := by decide +kernel
theorem dX1_tranks_17 : decode cX1_tranks 17 = .ok (.iload_n 3, 1) := by decide +kernel
theorem dX1_tranks_18 : decode cX1_tranks 18 = .ok (.iaload, 1) := by decide +kernel
theorem dX1_tranks_19 : decode cX1_tranks 19 = .ok (.iload_n 1, 1) := by decide +kernel
theorem dX1_tranks_20 : decode cX1_tranks 20 = .ok (.if_icmp .ne 22, 3) := by decide +kernel
theorem dX1_tranks_23 : decode cX1_tranks 23 = .ok (.aload_n 0, 1) := by decide +kernel
theorem dX1_tranks_24 : decode cX1_tranks 24 = .ok (.iload_n 3, 1) := by decide +kernel
theorem dX1_tranks_25 : decode cX1_tranks 25 = .ok (.aload_n 0, 1) := by decide +kernel
theorem dX1_tranks_26 : decode cX1_tranks 26 = .ok (.getfield 9, 3) := by decide +kernel
theorem dX1_tranks_29 : decode cX1_tranks 29 = .ok (.iload_n 1, 1) := by decide +kernel
theorem dX1_tranks_30 : decode cX1_tranks 30 = .ok (.iaload, 1) := by decide +kernel
theorem dX1_tranks_31 : decode cX1_tranks 31 = .ok (.iconst 0, 1) := by decide +kernel
theorem dX1_tranks_32 : decode cX1_tranks 32 = .ok (.invokevirtual 104, 3) := by decide +kernel
theorem dX1_tranks_35 : decode cX1_tranks 35 = .ok (.ifCond .eq 7, 3) := by decide +kernel
theorem dX1_tranks_38 : decode cX1_tranks 38 = .ok (.iconst 1, 1) := by decide +kernel
theorem dX1_tranks_39 : decode cX1_tranks 39 = .ok (.goto 4, 3) := by decide +kernel
theorem dX1_tranks_42 : decode cX1_tranks 42 = .ok (.iconst 0, 1) := by decide +kernel
theorem dX1_tranks_43 : decode cX1_tranks 43 = .ok (.iadd, 1) := by decide +kernel
theorem dX1_tranks_44 : decode cX1_tranks 44 = .ok (.istore_n 2, 1) := by decide +kernel
theorem dX1_tranks_45 : decode cX1_tranks 45 = .ok (.iinc 3 1, 3) := by decide +kernel
theorem dX1_tranks_48 : decode cX1_tranks 48 = .ok (.goto (-44), 3) := by decide +kernel
theorem dX1_tranks_51 : decode cX1_tranks 51 = .ok (.iload_n 2, 1) := by decide +kernel
theorem dX1_tranks_52 : decode cX1_tranks 52 = .ok (.ireturn, 1) := by decide +kernel
set_option maxRecDepth 20000 in
theorem ggX1_trankSkin_X1_tranks : GoodIn wsX1_trankSkin wsX1_tranks := goodIn_r _ [7, 8, 9, 2, 10, 11, 12, 6, 13, 14, 15, 16, 17, 18, 19, 20, 21, 22, 23, 24, 25, 26, 27] (by decide +kernel) (by decide +kernel)
set_option maxRecDepth 20000 in
theorem gX1_trankSkin_X1_tranks : GoodIn wsX1_trankSkin (wsV RX1 107 RX1 yX1_tranks wsX1_tranks) := goodIn_app (goodIn_of _ (by decide +kernel)) ggX1_trankSkin_X1_tranks
theorem dX1_trankSkin_0 : decode cX1_trankSkin 0 = .ok (.iconst 0, 1) := by decide +kernel
theorem dX1_trankSkin_1 : decode cX1_trankSkin 1 = .ok (.istore_n 2, 1) := by decide +kernel
theorem dX1_trankSkin_2 : decode cX1_trankSkin 2 = .ok (.iload_n 2, 1) := by decide +kernel
theorem dX1_trankSkin_3 : decode cX1_trankSkin 3 = .ok (.aload_n 0, 1) := by decide +kernel
theorem dX1_trankSkin_4 : decode cX1_trankSkin 4 = .ok (.getfield 38, 3) := by decide +kernel
theorem dX1_trankSkin_7 : decode cX1_trankSkin 7 = .ok (.if_icmp .ge 30, 3) := by decide +kernel
theorem dX1_trankSkin_10 : decode cX1_trankSkin 10 = .ok (.aload_n 0, 1) := by decide +kernel
theorem dX1_trankSkin_11 : decode cX1_trankSkin 11 = .ok (.getfield 9, 3) := by decide +kernel
theorem dX1_trankSkin_14 : decode cX1_trankSkin 14 = .ok (.iload_n 2, 1) := by decide +kernel
theorem dX1_trankSkin_15 : decode cX1_trankSkin 15 = .ok (.iaload, 1) := by decide +kernel
theorem dX1_trankSkin_16 : decode cX1_trankSkin 16 = .ok (.iload_n 1, 1) := by decide +kernel
theorem dX1_trankSkin_17 : decode cX1_trankSkin 17 = .ok (.if_icmp .ne 14, 3) := by decide +kernel
theorem dX1_trankSkin_20 : decode cX1_trankSkin 20 = .ok (.aload_n 0, 1) := by decide +kernel
theorem dX1_trankSkin_21 : decode cX1_trankSkin 21 = .ok (.iload_n 2, 1) := by decide +kernel
theorem dX1_trankSkin_22 : decode cX1_trankSkin 22 = .ok (.invokevirtual 107, 3) := by decide +kernel
theorem dX1_trankSkin_25 : decode cX1_trankSkin 25 = .ok (.iconst 1, 1) := by decide +kernel
theorem dX1_trankSkin_26 : decode cX1_trankSkin 26 = .ok (.if_icmp .le 5, 3) := by decide +kernel
theorem dX1_trankSkin_29 : decode cX1_trankSkin 29 = .ok (.iload_n 2, 1) := by decide +kernel
theorem dX1_trankSkin_30 : decode cX1_trankSkin 30 = .ok (.ireturn, 1) := by decide +kernel
theorem dX1_trankSkin_31 : decode cX1_trankSkin 31 = .ok (.iinc 2 1, 3) := by decide +kernel
theorem dX1_trankSkin_34 : decode cX1_trankSkin 34 = .ok (.goto (-32), 3) := by decide +kernel
theorem dX1_trankSkin_37 : decode cX1_trankSkin 37 = .ok (.iconst (-1), 1) := by decide +kernel
theorem dX1_trankSkin_38 : decode cX1_trankSkin 38 = .ok (.ireturn, 1) := by decide +kernel
set_option maxRecDepth 20000 in
theorem ggX1_canSew_X1_trankSkin : GoodIn wsX1_canSew wsX1_trankSkin := goodIn_r _ [6, 7, 8, 9, 10, 11, 5, 12, 13, 14, 15, 16, 17, 18, 19, 20, 25, 26, 27, 28, 29, 30, 31, 32, 33, 34, 35, 36] (by decide +kernel) (by decide +kernel)
set_option maxRecDepth 20000 in
theorem gX1_canSew_X1_trankSkin : GoodIn wsX1_canSew (wsV RX1 110 RX1 yX1_trankSkin wsX1_trankSkin) := goodIn_app (goodIn_of _ (by decide +kernel)) ggX1_canSew_X1_trankSkin
set_option maxRecDepth 20000 in
theorem ggX1_canSew_X1_free : GoodIn wsX1_canSew wsX1_free := goodIn_r _ [24, 13, 15, 16, 17, 5, 18, 19, 20, 8, 14, 25, 26, 27, 28, 29, 30, 31, 32, 33, 34, 35, 36] (by decide +kernel) (by decide +kernel)
set_option maxRecDepth 20000 in
theorem gX1_canSew_X1_free : GoodIn wsX1_canSew (wsV RX1 113 RX1 yX1_free wsX1_free) := goodIn_app (goodIn_of _ (by decide +kernel)) ggX1_canSew_X1_free
theorem dX1_canSew_0 : decode cX1_canSew 0 = .ok (.aload_n 0, 1) := by decide +kernel
theorem dX1_canSew_1 : decode cX1_canSew 1 = .ok (.iload_n 1, 1) := by decide +kernel
theorem dX1_canSew_2 : decode cX1_canSew 2 = .ok (.invokevirtual 110, 3) := by decide +kernel
theorem dX1_canSew_5 : decode cX1_canSew 5 = .ok (.iconst (-1), 1) := by decide +kernel
theorem dX1_canSew_6 : decode cX1_canSew 6 = .ok (.if_icmp .eq 7, 3) := by decide +kernel
theorem dX1_canSew_9 : decode cX1_canSew 9 = .ok (.iconst 1, 1) := by decide +kernel
theorem dX1_canSew_10 : decode cX1_canSew 10 = .ok (.goto 4, 3) := by decide +kernel
theorem dX1_canSew_13 : decode cX1_canSew 13 = .ok (.iconst 0, 1) := by decide +kernel
theorem dX1_canSew_14 : decode cX1_canSew 14 = .ok (.istore_n 2, 1) := by decide +kernel
theorem dX1_canSew_15 : decode cX1_canSew 15 = .ok (.iconst 1, 1) := by decide +kernel
theorem dX1_canSew_16 : decode cX1_canSew 16 = .ok (.istore_n 3, 1) := by decide +kernel
theorem dX1_canSew_17 : decode cX1_canSew 17 = .ok (.iload_n 3, 1) := by decide +kernel
theorem dX1_canSew_18 : decode cX1_canSew 18 = .ok (.iconst 4, 1) := by decide +kernel
theorem dX1_canSew_19 : decode cX1_canSew 19 = .ok (.if_icmp .ge 31, 3) := by decide +kernel
theorem dX1_canSew_22 : decode cX1_canSew 22 = .ok (.iload_n 2, 1) := by decide +kernel
theorem dX1_canSew_23 : decode cX1_canSew 23 = .ok (.aload_n 0, 1) := by decide +kernel
theorem dX1_canSew_24 : decode cX1_canSew 24 = .ok (.iload_n 1, 1) := by decide +kernel
theorem dX1_canSew_25 : decode cX1_canSew 25 = .ok (.iload_n 3, 1) := by decide +kernel
theorem dX1_canSew_26 : decode cX1_canSew 26 = .ok (.invokevirtual 113, 3) := by decide +kernel
theorem dX1_canSew_29 : decode cX1_canSew 29 = .ok (.getstatic 116, 3) := by decide +kernel
theorem dX1_canSew_32 : decode cX1_canSew 32 = .ok (.iload_n 3, 1) := by decide +kernel
theorem dX1_canSew_33 : decode cX1_canSew 33 = .ok (.iaload, 1) := by decide +kernel
theorem dX1_canSew_34 : decode cX1_canSew 34 = .ok (.if_icmp .lt 7, 3) := by decide +kernel
theorem dX1_canSew_37 : decode cX1_canSew 37 = .ok (.iconst 1, 1) := by decide +kernel
theorem dX1_canSew_38 : decode cX1_canSew 38 = .ok (.goto 4, 3) := by decide +kernel
theorem dX1_canSew_41 : decode cX1_canSew 41 = .ok (.iconst 0, 1) := by decide +kernel
theorem dX1_canSew_42 : decode cX1_canSew 42 = .ok (.iand, 1) := by decide +kernel
theorem dX1_canSew_43 : decode cX1_canSew 43 = .ok (.istore_n 2, 1) := by decide +kernel
theorem dX1_canSew_44 : decode cX1_canSew 44 = .ok (.iinc 3 1, 3) := by decide +kernel
theorem dX1_canSew_47 : decode cX1_canSew 47 = .ok (.goto (-30), 3) := by decide +kernel
theorem dX1_canSew_50 : decode cX1_canSew 50 = .ok (.iload_n 2, 1) := by decide +kernel
theorem dX1_canSew_51 : decode cX1_canSew 51 = .ok (.ireturn, 1) := by decide +kernel
set_option maxRecDepth 20000 in
theorem ggX1_take_X1_isFree : GoodIn wsX1_take wsX1_isFree := goodIn_r _ [10, 4, 11, 12, 3, 13, 14, 15, 16, 17, 18, 19, 20, 21, 22, 23, 24] (by decide +kernel) (by decide +kernel)
set_option maxRecDepth 20000 in
theorem gX1_take_X1_isFree : GoodIn wsX1_take (wsV RX1 104 RX1 yX1_isFree wsX1_isFree) := goodIn_app (goodIn_of _ (by decide +kernel)) ggX1_take_X1_isFree
theorem dX1_take_0 : decode cX1_take 0 = .ok (.getstatic 116, 3) := by decide +kernel
theorem dX1_take_3 : decode cX1_take 3 = .ok (.iload_n 2, 1) := by decide +kernel
theorem dX1_take_4 : decode cX1_take 4 = .ok (.iaload, 1) := by decide +kernel
theorem dX1_take_5 : decode cX1_take 5 = .ok (.istore 4, 2) := by decide +kernel
theorem dX1_take_7 : decode cX1_take 7 = .ok (.iconst 0, 1) := by decide +kernel
theorem dX1_take_8 : decode cX1_take 8 = .ok (.istore 5, 2) := by decide +kernel
theorem dX1_take_10 : decode cX1_take 10 = .ok (.iload 5, 2) := by decide +kernel
theorem dX1_take_12 : decode cX1_take 12 = .ok (.aload_n 0, 1) := by decide +kernel
theorem dX1_take_13 : decode cX1_take 13 = .ok (.getfield 67, 3) := by decide +kernel
theorem dX1_take_16 : decode cX1_take 16 = .ok (.if_icmp .ge 58, 3) := by decide +kernel
theorem dX1_take_19 : decode cX1_take 19 = .ok (.iload 4, 2) := by decide +kernel
theorem dX1_take_21 : decode cX1_take 21 = .ok (.ifCond .le 53, 3) := by decide +kernel
theorem dX1_take_24 : decode cX1_take 24 = .ok (.aload_n 0, 1) := by decide +kernel
theorem dX1_take_25 : decode cX1_take 25 = .ok (.iload 5, 2) := by decide +kernel
theorem dX1_take_27 : decode cX1_take 27 = .ok (.iload_n 1, 1) := by decide +kernel
theorem dX1_take_28 : decode cX1_take 28 = .ok (.iload_n 2, 1) := by decide +kernel
theorem dX1_take_29 : decode cX1_take 29 = .ok (.invokevirtual 104, 3) := by decide +kernel
theorem dX1_take_32 : decode cX1_take 32 = .ok (.ifCond .eq 36, 3) := by decide +kernel
theorem dX1_take_35 : decode cX1_take 35 = .ok (.iload_n 3, 1) := by decide +kernel
theorem dX1_take_36 : decode cX1_take 36 = .ok (.iconst (-1), 1) := by decide +kernel
theorem dX1_take_37 : decode cX1_take 37 = .ok (.if_icmp .eq 17, 3) := by decide +kernel
theorem dX1_take_40 : decode cX1_take 40 = .ok (.aload_n 0, 1) := by decide +kernel
theorem dX1_take_41 : decode cX1_take 41 = .ok (.getfield 16, 3) := by decide +kernel
theorem dX1_take_44 : decode cX1_take 44 = .ok (.iload 5, 2) := by decide +kernel
theorem dX1_take_46 : decode cX1_take 46 = .ok (.iaload, 1) := by decide +kernel
theorem dX1_take_47 : decode cX1_take 47 = .ok (.iload_n 3, 1) := by decide +kernel
theorem dX1_take_48 : decode cX1_take 48 = .ok (.if_icmp .eq 6, 3) := by decide +kernel
theorem dX1_take_51 : decode cX1_take 51 = .ok (.goto 17, 3) := by decide +kernel
theorem dX1_take_54 : decode cX1_take 54 = .ok (.aload_n 0, 1) := by decide +kernel
theorem dX1_take_55 : decode cX1_take 55 = .ok (.getfield 22, 3) := by decide +kernel
theorem dX1_take_58 : decode cX1_take 58 = .ok (.iload 5, 2) := by decide +kernel
theorem dX1_take_60 : decode cX1_take 60 = .ok (.aload_n 0, 1) := by decide +kernel
theorem dX1_take_61 : decode cX1_take 61 = .ok (.getfield 119, 3) := by decide +kernel
theorem dX1_take_64 : decode cX1_take 64 = .ok (.iastore, 1) := by decide +kernel
theorem dX1_take_65 : decode cX1_take 65 = .ok (.iinc 4 (-1), 3) := by decide +kernel
theorem dX1_take_68 : decode cX1_take 68 = .ok (.iinc 5 1, 3) := by decide +kernel
theorem dX1_take_71 : decode cX1_take 71 = .ok (.goto (-61), 3) := by decide +kernel
theorem dX1_take_74 : decode cX1_take 74 = .ok (.return_, 1) := by decide +kernel
set_option maxRecDepth 20000 in
theorem ggX1_sew_X1_isColour : GoodIn wsX1_sew wsX1_isColour := goodIn_r _ [16, 17, 18, 15, 19] (by decide +kernel) (by decide +kernel)
set_option maxRecDepth 20000 in
theorem gX1_sew_X1_isColour : GoodIn wsX1_sew (va_wsS RX1 49 yX1_isColour wsX1_isColour) := goodIn_app (goodIn_of _ (by decide +kernel)) ggX1_sew_X1_isColour
set_option maxRecDepth 20000 in
theorem ggX1_sew_X1_no : GoodIn wsX1_sew wsX1_no := goodIn_r _ [23, 1, 59, 60, 61, 62, 63, 64, 65, 66, 67, 68, 69, 70] (by decide +kernel) (by decide +kernel)
set_option maxRecDepth 20000 in
theorem gX1_sew_X1_no : GoodIn wsX1_sew (wsV RX1 52 RX1 yX1_no wsX1_no) := goodIn_app (goodIn_of _ (by decide +kernel)) ggX1_sew_X1_no
set_option maxRecDepth 20000 in
theorem ggX1_sew_X1_canSew : GoodIn wsX1_sew wsX1_canSew := goodIn_r _ [27, 28, 29, 30, 31, 15, 32, 33, 34, 35, 36, 37, 38, 3, 5, 39, 40, 41, 42, 4, 43, 44, 45, 46, 47, 59, 60, 61, 62, 63, 64, 65, 66, 67, 68, 69, 70] (by decide +kernel) (by decide +kernel)
set_option maxRecDepth 20000 in
theorem gX1_sew_X1_canSew : GoodIn wsX1_sew (wsV RX1 122 RX1 yX1_canSew wsX1_canSew) := goodIn_app (goodIn_of _ (by decide +kernel)) ggX1_sew_X1_canSew
set_option maxRecDepth 20000 in
theorem ggX1_sew_X1_trankSkin : GoodIn wsX1_sew wsX1_trankSkin := goodIn_r _ [32, 33, 34, 35, 36, 37, 15, 38, 3, 5, 39, 40, 41, 42, 4, 43, 59, 60, 61, 62, 63, 64, 65, 66, 67, 68, 69, 70] (by decide +kernel) (by decide +kernel)
set_option maxRecDepth 20000 in
theorem gX1_sew_X1_trankSkin : GoodIn wsX1_sew (wsV RX1 110 RX1 yX1_trankSkin wsX1_trankSkin) := goodIn_app (goodIn_of _ (by decide +kernel)) ggX1_sew_X1_trankSkin
set_option maxRecDepth 20000 in
theorem ggX1_sew_X1_take : GoodIn wsX1_sew wsX1_take := goodIn_r _ [51, 28, 3, 5, 4, 2, 39, 40, 41, 15, 42, 43, 34, 59, 60, 61, 62, 63, 64, 65, 66, 67, 68, 69, 70] (by decide +kernel) (by decide +kernel)
set_option maxRecDepth 20000 in
theorem gX1_sew_X1_take : GoodIn wsX1_sew (wsV RX1 125 RX1 yX1_take wsX1_take) := goodIn_app (goodIn_of _ (by decide +kernel)) ggX1_sew_X1_take
set_option maxRecDepth 20000 in
theorem ggX1_sew_J6_bitCount_0f7a4 : GoodIn wsX1_sew wsJ6_bitCount_0f7a4 := goodIn_r _ [55, 56, 57, 58] (by decide +kernel) (by decide +kernel)
set_option maxRecDepth 20000 in
theorem gX1_sew_J6_bitCount_0f7a4 : GoodIn wsX1_sew (va_wsS RX1 129 yJ6_bitCount_0f7a4 wsJ6_bitCount_0f7a4) := goodIn_app (goodIn_of _ (by decide +kernel)) ggX1_sew_J6_bitCount_0f7a4
theorem dX1_sew_0 : decode cX1_sew 0 = .ok (.aload_n 0, 1) := by decide +kernel
theorem dX1_sew_1 : decode cX1_sew 1 = .ok (.iconst 0, 1) := by decide +kernel
theorem dX1_sew_2 : decode cX1_sew 2 = .ok (.putfield 34, 3) := by decide +kernel
theorem dX1_sew_5 : decode cX1_sew 5 = .ok (.iload_n 1, 1) := by decide +kernel
theorem dX1_sew_6 : decode cX1_sew 6 = .ok (.invokestatic 49, 3) := by decide +kernel
theorem dX1_sew_9 : decode cX1_sew 9 = .ok (.ifCond .ne 9, 3) := by decide +kernel
theorem dX1_sew_12 : decode cX1_sew 12 = .ok (.aload_n 0, 1) := by decide +kernel
theorem dX1_sew_13 : decode cX1_sew 13 = .ok (.iconst 1, 1) := by decide +kernel
theorem dX1_sew_14 : decode cX1_sew 14 = .ok (.invokevirtual 52, 3) := by decide +kernel
theorem dX1_sew_17 : decode cX1_sew 17 = .ok (.ireturn, 1) := by decide +kernel
theorem dX1_sew_18 : decode cX1_sew 18 = .ok (.aload_n 0, 1) := by decide +kernel
theorem dX1_sew_19 : decode cX1_sew 19 = .ok (.getfield 119, 3) := by decide +kernel
theorem dX1_sew_22 : decode cX1_sew 22 = .ok (.bipush 20, 2) := by decide +kernel
theorem dX1_sew_24 : decode cX1_sew 24 = .ok (.if_icmp .eq 11, 3) := by decide +kernel
theorem dX1_sew_27 : decode cX1_sew 27 = .ok (.aload_n 0, 1) := by decide +kernel
theorem dX1_sew_28 : decode cX1_sew 28 = .ok (.iload_n 1, 1) := by decide +kernel
theorem dX1_sew_29 : decode cX1_sew 29 = .ok (.invokevirtual 122, 3) := by decide +kernel
theorem dX1_sew_32 : decode cX1_sew 32 = .ok (.ifCond .ne 9, 3) := by decide +kernel
theorem dX1_sew_35 : decode cX1_sew 35 = .ok (.aload_n 0, 1) := by decide +kernel
theorem dX1_sew_36 : decode cX1_sew 36 = .ok (.iconst 2, 1) := by decide +kernel
theorem dX1_sew_37 : decode cX1_sew 37 = .ok (.invokevirtual 52, 3) := by decide +kernel
theorem dX1_sew_40 : decode cX1_sew 40 = .ok (.ireturn, 1) := by decide +kernel
theorem dX1_sew_41 : decode cX1_sew 41 = .ok (.aload_n 0, 1) := by decide +kernel
theorem dX1_sew_42 : decode cX1_sew 42 = .ok (.iload_n 1, 1) := by decide +kernel
theorem dX1_sew_43 : decode cX1_sew 43 = .ok (.invokevirtual 110, 3) := by decide +kernel
theorem dX1_sew_46 : decode cX1_sew 46 = .ok (.istore_n 2, 1) := by decide +kernel
theorem dX1_sew_47 : decode cX1_sew 47 = .ok (.iconst 0, 1) := by decide +kernel
theorem dX1_sew_48 : decode cX1_sew 48 = .ok (.istore_n 3, 1) := by decide +kernel
theorem dX1_sew_49 : decode cX1_sew 49 = .ok (.iload_n 3, 1) := by decide +kernel
theorem dX1_sew_50 : decode cX1_sew 50 = .ok (.iconst 4, 1) := by decide +kernel
theorem dX1_sew_51 : decode cX1_sew 51 = .ok (.if_icmp .ge 24, 3) := by decide +kernel
theorem dX1_sew_54 : decode cX1_sew 54 = .ok (.aload_n 0, 1) := by decide +kernel
theorem dX1_sew_55 : decode cX1_sew 55 = .ok (.iload_n 1, 1) := by decide +kernel
theorem dX1_sew_56 : decode cX1_sew 56 = .ok (.iload_n 3, 1) := by decide +kernel
theorem dX1_sew_57 : decode cX1_sew 57 = .ok (.iload_n 3, 1) := by decide +kernel
theorem dX1_sew_58 : decode cX1_sew 58 = .ok (.ifCond .ne 7, 3) := by decide +kernel
theorem dX1_sew_61 : decode cX1_sew 61 = .ok (.iload_n 2, 1) := by decide +kernel
theorem dX1_sew_62 : decode cX1_sew 62 = .ok (.goto 4, 3) := by decide +kernel
theorem dX1_sew_65 : decode cX1_sew 65 = .ok (.iconst (-1), 1) := by decide +kernel
theorem dX1_sew_66 : decode cX1_sew 66 = .ok (.invokevirtual 125, 3) := by decide +kernel
theorem dX1_sew_69 : decode cX1_sew 69 = .ok (.iinc 3 1, 3) := by decide +kernel
theorem dX1_sew_72 : decode cX1_sew 72 = .ok (.goto (-23), 3) := by decide +kernel
theorem dX1_sew_75 : decode cX1_sew 75 = .ok (.iconst 0, 1) := by decide +kernel
theorem dX1_sew_76 : decode cX1_sew 76 = .ok (.istore_n 3, 1) := by decide +kernel
theorem dX1_sew_77 : decode cX1_sew 77 = .ok (.iconst 0, 1) := by decide +kernel
theorem dX1_sew_78 : decode cX1_sew 78 = .ok (.istore 4, 2) := by decide +kernel
theorem dX1_sew_80 : decode cX1_sew 80 = .ok (.iconst 0, 1) := by decide +kernel
theorem dX1_sew_81 : decode cX1_sew 81 = .ok (.istore 5, 2) := by decide +kernel
theorem dX1_sew_83 : decode cX1_sew 83 = .ok (.iload 5, 2) := by decide +kernel
theorem dX1_sew_85 : decode cX1_sew 85 = .ok (.aload_n 0, 1) := by decide +kernel
theorem dX1_sew_86 : decode cX1_sew 86 = .ok (.getfield 67, 3) := by decide +kernel
theorem dX1_sew_89 : decode cX1_sew 89 = .ok (.if_icmp .ge 50, 3) := by decide +kernel
theorem dX1_sew_92 : decode cX1_sew 92 = .ok (.aload_n 0, 1) := by decide +kernel
theorem dX1_sew_93 : decode cX1_sew 93 = .ok (.getfield 22, 3) := by decide +kernel
theorem dX1_sew_96 : decode cX1_sew 96 = .ok (.iload 5, 2) := by decide +kernel
theorem dX1_sew_98 : decode cX1_sew 98 = .ok (.iaload, 1) := by decide +kernel
theorem dX1_sew_99 : decode cX1_sew 99 = .ok (.aload_n 0, 1) := by decide +kernel
theorem dX1_sew_100 : decode cX1_sew 100 = .ok (.getfield 119, 3) := by decide +kernel
theorem dX1_sew_103 : decode cX1_sew 103 = .ok (.if_icmp .eq 6, 3) := by decide +kernel
theorem dX1_sew_106 : decode cX1_sew 106 = .ok (.goto 27, 3) := by decide +kernel
theorem dX1_sew_109 : decode cX1_sew 109 = .ok (.iload_n 3, 1) := by decide +kernel
theorem dX1_sew_110 : decode cX1_sew 110 = .ok (.iconst 1, 1) := by decide +kernel
theorem dX1_sew_111 : decode cX1_sew 111 = .ok (.aload_n 0, 1) := by decide +kernel
theorem dX1_sew_112 : decode cX1_sew 112 = .ok (.getfield 16, 3) := by decide +kernel
theorem dX1_sew_115 : decode cX1_sew 115 = .ok (.iload 5, 2) := by decide +kernel
theorem dX1_sew_117 : decode cX1_sew 117 = .ok (.iaload, 1) := by decide +kernel
theorem dX1_sew_118 : decode cX1_sew 118 = .ok (.ishl, 1) := by decide +kernel
theorem dX1_sew_119 : decode cX1_sew 119 = .ok (.ior, 1) := by decide +kernel
theorem dX1_sew_120 : decode cX1_sew 120 = .ok (.istore_n 3, 1) := by decide +kernel
theorem dX1_sew_121 : decode cX1_sew 121 = .ok (.iload 4, 2) := by decide +kernel
theorem dX1_sew_123 : decode cX1_sew 123 = .ok (.aload_n 0, 1) := by decide +kernel
theorem dX1_sew_124 : decode cX1_sew 124 = .ok (.getfield 25, 3) := by decide +kernel
theorem dX1_sew_127 : decode cX1_sew 127 = .ok (.iload 5, 2) := by decide +kernel
theorem dX1_sew_129 : decode cX1_sew 129 = .ok (.iaload, 1) := by decide +kernel
theorem dX1_sew_130 : decode cX1_sew 130 = .ok (.iadd, 1) := by decide +kernel
theorem dX1_sew_131 : decode cX1_sew 131 = .ok (.istore 4, 2) := by decide +kernel
theorem dX1_sew_133 : decode cX1_sew 133 = .ok (.iinc 5 1, 3) := by decide +kernel
theorem dX1_sew_136 : decode cX1_sew 136 = .ok (.goto (-53), 3) := by decide +kernel
theorem dX1_sew_139 : decode cX1_sew 139 = .ok (.iconst 5, 1) := by decide +kernel
theorem dX1_sew_140 : decode cX1_sew 140 = .ok (.newarray .int, 2) := by decide +kernel
theorem dX1_sew_142 : decode cX1_sew 142 = .ok (.dup, 1) := by decide +kernel
theorem dX1_sew_143 : decode cX1_sew 143 = .ok (.iconst 0, 1) := by decide +kernel
theorem dX1_sew_144 : decode cX1_sew 144 = .ok (.iload_n 1, 1) := by decide +kernel
theorem dX1_sew_145 : decode cX1_sew 145 = .ok (.iastore, 1) := by decide +kernel
theorem dX1_sew_146 : decode cX1_sew 146 = .ok (.dup, 1) := by decide +kernel
theorem dX1_sew_147 : decode cX1_sew 147 = .ok (.iconst 1, 1) := by decide +kernel
theorem dX1_sew_148 : decode cX1_sew 148 = .ok (.iload_n 2, 1) := by decide +kernel
theorem dX1_sew_149 : decode cX1_sew 149 = .ok (.iastore, 1) := by decide +kernel
theorem dX1_sew_150 : decode cX1_sew 150 = .ok (.dup, 1) := by decide +kernel
theorem dX1_sew_151 : decode cX1_sew 151 = .ok (.iconst 2, 1) := by decide +kernel
theorem dX1_sew_152 : decode cX1_sew 152 = .ok (.iload_n 3, 1) := by decide +kernel
theorem dX1_sew_153 : decode cX1_sew 153 = .ok (.invokestatic 129, 3) := by decide +kernel
theorem dX1_sew_156 : decode cX1_sew 156 = .ok (.iastore, 1) := by decide +kernel
theorem dX1_sew_157 : decode cX1_sew 157 = .ok (.dup, 1) := by decide +kernel
theorem dX1_sew_158 : decode cX1_sew 158 = .ok (.iconst 3, 1) := by decide +kernel
theorem dX1_sew_159 : decode cX1_sew 159 = .ok (.iload 4, 2) := by decide +kernel
theorem dX1_sew_161 : decode cX1_sew 161 = .ok (.iastore, 1) := by decide +kernel
theorem dX1_sew_162 : decode cX1_sew 162 = .ok (.dup, 1) := by decide +kernel
theorem dX1_sew_163 : decode cX1_sew 163 = .ok (.iconst 4, 1) := by decide +kernel
theorem dX1_sew_164 : decode cX1_sew 164 = .ok (.iconst 0, 1) := by decide +kernel
theorem dX1_sew_165 : decode cX1_sew 165 = .ok (.iastore, 1) := by decide +kernel
theorem dX1_sew_166 : decode cX1_sew 166 = .ok (.astore 5, 2) := by decide +kernel
theorem dX1_sew_168 : decode cX1_sew 168 = .ok (.aload 5, 2) := by decide +kernel
theorem dX1_sew_170 : decode cX1_sew 170 = .ok (.iconst 0, 1) := by decide +kernel
theorem dX1_sew_171 : decode cX1_sew 171 = .ok (.aload_n 0, 1) := by decide +kernel
theorem dX1_sew_172 : decode cX1_sew 172 = .ok (.getfield 28, 3) := by decide +kernel
theorem dX1_sew_175 : decode cX1_sew 175 = .ok (.iconst 5, 1) := by decide +kernel
theorem dX1_sew_176 : decode cX1_sew 176 = .ok (.aload_n 0, 1) := by decide +kernel
theorem dX1_sew_177 : decode cX1_sew 177 = .ok (.getfield 119, 3) := by decide +kernel
theorem dX1_sew_180 : decode cX1_sew 180 = .ok (.imul, 1) := by decide +kernel
theorem dX1_sew_181 : decode cX1_sew 181 = .ok (.iconst 5, 1) := by decide +kernel
theorem dX1_sew_182 : decode cX1_sew 182 = .ok (.invokestatic 134, 3) := by decide +kernel
theorem dX1_sew_185 : decode cX1_sew 185 = .ok (.aload_n 0, 1) := by decide +kernel
theorem dX1_sew_186 : decode cX1_sew 186 = .ok (.dup, 1) := by decide +kernel
theorem dX1_sew_187 : decode cX1_sew 187 = .ok (.getfield 119, 3) := by decide +kernel
theorem dX1_sew_190 : decode cX1_sew 190 = .ok (.iconst 1, 1) := by decide +kernel
theorem dX1_sew_191 : decode cX1_sew 191 = .ok (.iadd, 1) := by decide +kernel
theorem dX1_sew_192 : decode cX1_sew 192 = .ok (.putfield 119, 3) := by decide +kernel
theorem dX1_sew_195 : decode cX1_sew 195 = .ok (.aload_n 0, 1) := by decide +kernel
theorem dX1_sew_196 : decode cX1_sew 196 = .ok (.getfield 119, 3) := by decide +kernel
theorem dX1_sew_199 : decode cX1_sew 199 = .ok (.iconst 1, 1) := by decide +kernel
theorem dX1_sew_200 : decode cX1_sew 200 = .ok (.isub, 1) := by decide +kernel
theorem dX1_sew_201 : decode cX1_sew 201 = .ok (.ireturn, 1) := by decide +kernel
set_option maxRecDepth 20000 in
theorem ggX1_rip_X1_isIn : GoodIn wsX1_rip wsX1_isIn := goodIn_r _ [10] (by decide +kernel) (by decide +kernel)
set_option maxRecDepth 20000 in
theorem gX1_rip_X1_isIn : GoodIn wsX1_rip (va_wsS RX1 41 yX1_isIn wsX1_isIn) := goodIn_app (goodIn_of _ (by decide +kernel)) ggX1_rip_X1_isIn
set_option maxRecDepth 20000 in
theorem ggX1_rip_X1_no : GoodIn wsX1_rip wsX1_no := goodIn_r _ [14, 1, 15, 16, 17, 18, 19, 20, 21, 22, 23, 24, 25, 26] (by decide +kernel) (by decide +kernel)
set_option maxRecDepth 20000 in
theorem gX1_rip_X1_no : GoodIn wsX1_rip (wsV RX1 52 RX1 yX1_no wsX1_no) := goodIn_app (goodIn_of _ (by decide +kernel)) ggX1_rip_X1_no
theorem dX1_rip_0 : decode cX1_rip 0 = .ok (.aload_n 0, 1) := by decide +kernel
theorem dX1_rip_1 : decode cX1_rip 1 = .ok (.iconst 0, 1) := by decide +kernel
theorem dX1_rip_2 : decode cX1_rip 2 = .ok (.putfield 34, 3) := by decide +kernel
theorem dX1_rip_5 : decode cX1_rip 5 = .ok (.iload_n 1, 1) := by decide +kernel
theorem dX1_rip_6 : decode cX1_rip 6 = .ok (.iconst 0, 1) := by decide +kernel
theorem dX1_rip_7 : decode cX1_rip 7 = .ok (.aload_n 0, 1) := by decide +kernel
theorem dX1_rip_8 : decode cX1_rip 8 = .ok (.getfield 119, 3) := by decide +kernel
theorem dX1_rip_11 : decode cX1_rip 11 = .ok (.iconst 1, 1) := by decide +kernel
theorem dX1_rip_12 : decode cX1_rip 12 = .ok (.isub, 1) := by decide +kernel
theorem dX1_rip_13 : decode cX1_rip 13 = .ok (.invokestatic 41, 3) := by decide +kernel
theorem dX1_rip_16 : decode cX1_rip 16 = .ok (.ifCond .ne 9, 3) := by decide +kernel
theorem dX1_rip_19 : decode cX1_rip 19 = .ok (.aload_n 0, 1) := by decide +kernel
theorem dX1_rip_20 : decode cX1_rip 20 = .ok (.iconst 1, 1) := by decide +kernel
theorem dX1_rip_21 : decode cX1_rip 21 = .ok (.invokevirtual 52, 3) := by decide +kernel
theorem dX1_rip_24 : decode cX1_rip 24 = .ok (.ireturn, 1) := by decide +kernel
theorem dX1_rip_25 : decode cX1_rip 25 = .ok (.aload_n 0, 1) := by decide +kernel
theorem dX1_rip_26 : decode cX1_rip 26 = .ok (.getfield 28, 3) := by decide +kernel
theorem dX1_rip_29 : decode cX1_rip 29 = .ok (.iconst 5, 1) := by decide +kernel
theorem dX1_rip_30 : decode cX1_rip 30 = .ok (.iload_n 1, 1) := by decide +kernel
theorem dX1_rip_31 : decode cX1_rip 31 = .ok (.imul, 1) := by decide +kernel
theorem dX1_rip_32 : decode cX1_rip 32 = .ok (.iconst 4, 1) := by decide +kernel
theorem dX1_rip_33 : decode cX1_rip 33 = .ok (.iadd, 1) := by decide +kernel
theorem dX1_rip_34 : decode cX1_rip 34 = .ok (.iaload, 1) := by decide +kernel
theorem dX1_rip_35 : decode cX1_rip 35 = .ok (.iconst 1, 1) := by decide +kernel
theorem dX1_rip_36 : decode cX1_rip 36 = .ok (.if_icmp .ne 9, 3) := by decide +kernel
theorem dX1_rip_39 : decode cX1_rip 39 = .ok (.aload_n 0, 1) := by decide +kernel
theorem dX1_rip_40 : decode cX1_rip 40 = .ok (.iconst 2, 1) := by decide +kernel
theorem dX1_rip_41 : decode cX1_rip 41 = .ok (.invokevirtual 52, 3) := by decide +kernel
theorem dX1_rip_44 : decode cX1_rip 44 = .ok (.ireturn, 1) := by decide +kernel
theorem dX1_rip_45 : decode cX1_rip 45 = .ok (.aload_n 0, 1) := by decide +kernel
theorem dX1_rip_46 : decode cX1_rip 46 = .ok (.getfield 28, 3) := by decide +kernel
theorem dX1_rip_49 : decode cX1_rip 49 = .ok (.iconst 5, 1) := by decide +kernel
theorem dX1_rip_50 : decode cX1_rip 50 = .ok (.iload_n 1, 1) := by decide +kernel
theorem dX1_rip_51 : decode cX1_rip 51 = .ok (.imul, 1) := by decide +kernel
theorem dX1_rip_52 : decode cX1_rip 52 = .ok (.iconst 4, 1) := by decide +kernel
theorem dX1_rip_53 : decode cX1_rip 53 = .ok (.iadd, 1) := by decide +kernel
theorem dX1_rip_54 : decode cX1_rip 54 = .ok (.iconst 1, 1) := by decide +kernel
theorem dX1_rip_55 : decode cX1_rip 55 = .ok (.iastore, 1) := by decide +kernel
theorem dX1_rip_56 : decode cX1_rip 56 = .ok (.iconst 0, 1) := by decide +kernel
theorem dX1_rip_57 : decode cX1_rip 57 = .ok (.istore_n 2, 1) := by decide +kernel
theorem dX1_rip_58 : decode cX1_rip 58 = .ok (.iconst 0, 1) := by decide +kernel
theorem dX1_rip_59 : decode cX1_rip 59 = .ok (.istore_n 3, 1) := by decide +kernel
theorem dX1_rip_60 : decode cX1_rip 60 = .ok (.iload_n 3, 1) := by decide +kernel
theorem dX1_rip_61 : decode cX1_rip 61 = .ok (.aload_n 0, 1) := by decide +kernel
theorem dX1_rip_62 : decode cX1_rip 62 = .ok (.getfield 67, 3) := by decide +kernel
theorem dX1_rip_65 : decode cX1_rip 65 = .ok (.if_icmp .ge 62, 3) := by decide +kernel
theorem dX1_rip_68 : decode cX1_rip 68 = .ok (.aload_n 0, 1) := by decide +kernel
theorem dX1_rip_69 : decode cX1_rip 69 = .ok (.getfield 22, 3) := by decide +kernel
theorem dX1_rip_72 : decode cX1_rip 72 = .ok (.iload_n 3, 1) := by decide +kernel
theorem dX1_rip_73 : decode cX1_rip 73 = .ok (.iaload, 1) := by decide +kernel
theorem dX1_rip_74 : decode cX1_rip 74 = .ok (.iload_n 1, 1) := by decide +kernel
theorem dX1_rip_75 : decode cX1_rip 75 = .ok (.if_icmp .eq 6, 3) := by decide +kernel
theorem dX1_rip_78 : decode cX1_rip 78 = .ok (.goto 43, 3) := by decide +kernel
theorem dX1_rip_81 : decode cX1_rip 81 = .ok (.aload_n 0, 1) := by decide +kernel
theorem dX1_rip_82 : decode cX1_rip 82 = .ok (.getfield 22, 3) := by decide +kernel
theorem dX1_rip_85 : decode cX1_rip 85 = .ok (.iload_n 3, 1) := by decide +kernel
theorem dX1_rip_86 : decode cX1_rip 86 = .ok (.aload_n 0, 1) := by decide +kernel
theorem dX1_rip_87 : decode cX1_rip 87 = .ok (.getfield 19, 3) := by decide +kernel
theorem dX1_rip_90 : decode cX1_rip 90 = .ok (.iload_n 3, 1) := by decide +kernel
theorem dX1_rip_91 : decode cX1_rip 91 = .ok (.iaload, 1) := by decide +kernel
theorem dX1_rip_92 : decode cX1_rip 92 = .ok (.iconst 2, 1) := by decide +kernel
theorem dX1_rip_93 : decode cX1_rip 93 = .ok (.if_icmp .ne 8, 3) := by decide +kernel
theorem dX1_rip_96 : decode cX1_rip 96 = .ok (.bipush (-2), 2) := by decide +kernel
theorem dX1_rip_98 : decode cX1_rip 98 = .ok (.goto 4, 3) := by decide +kernel
theorem dX1_rip_101 : decode cX1_rip 101 = .ok (.iconst (-1), 1) := by decide +kernel
theorem dX1_rip_102 : decode cX1_rip 102 = .ok (.iastore, 1) := by decide +kernel
theorem dX1_rip_103 : decode cX1_rip 103 = .ok (.iload_n 2, 1) := by decide +kernel
theorem dX1_rip_104 : decode cX1_rip 104 = .ok (.aload_n 0, 1) := by decide +kernel
theorem dX1_rip_105 : decode cX1_rip 105 = .ok (.getfield 19, 3) := by decide +kernel
theorem dX1_rip_108 : decode cX1_rip 108 = .ok (.iload_n 3, 1) := by decide +kernel
theorem dX1_rip_109 : decode cX1_rip 109 = .ok (.iaload, 1) := by decide +kernel
theorem dX1_rip_110 : decode cX1_rip 110 = .ok (.iconst 2, 1) := by decide +kernel
theorem dX1_rip_111 : decode cX1_rip 111 = .ok (.if_icmp .ne 7, 3) := by decide +kernel
theorem dX1_rip_114 : decode cX1_rip 114 = .ok (.iconst 0, 1) := by decide +kernel
theorem dX1_rip_115 : decode cX1_rip 115 = .ok (.goto 4, 3) := by decide +kernel
theorem dX1_rip_118 : decode cX1_rip 118 = .ok (.iconst 1, 1) := by decide +kernel
theorem dX1_rip_119 : decode cX1_rip 119 = .ok (.iadd, 1) := by decide +kernel
theorem dX1_rip_120 : decode cX1_rip 120 = .ok (.istore_n 2, 1) := by decide +kernel
theorem dX1_rip_121 : decode cX1_rip 121 = .ok (.iinc 3 1, 3) := by decide +kernel
theorem dX1_rip_124 : decode cX1_rip 124 = .ok (.goto (-64), 3) := by decide +kernel
theorem dX1_rip_127 : decode cX1_rip 127 = .ok (.iload_n 2, 1) := by decide +kernel
theorem dX1_rip_128 : decode cX1_rip 128 = .ok (.ireturn, 1) := by decide +kernel
set_option maxRecDepth 20000 in
theorem ggX1_pair_X1_isIn : GoodIn wsX1_pair wsX1_isIn := goodIn_r _ [7] (by decide +kernel) (by decide +kernel)
set_option maxRecDepth 20000 in
theorem gX1_pair_X1_isIn : GoodIn wsX1_pair (va_wsS RX1 41 yX1_isIn wsX1_isIn) := goodIn_app (goodIn_of _ (by decide +kernel)) ggX1_pair_X1_isIn
set_option maxRecDepth 20000 in
theorem ggX1_pair_X1_no : GoodIn wsX1_pair wsX1_no := goodIn_r _ [11, 1, 12, 13, 14, 15, 16, 17, 18, 19, 20, 21, 22, 23] (by decide +kernel) (by decide +kernel)
set_option maxRecDepth 20000 in
theorem gX1_pair_X1_no : GoodIn wsX1_pair (wsV RX1 52 RX1 yX1_no wsX1_no) := goodIn_app (goodIn_of _ (by decide +kernel)) ggX1_pair_X1_no
theorem dX1_pair_0 : decode cX1_pair 0 = .ok (.aload_n 0, 1) := by decide +kernel
theorem dX1_pair_1 : decode cX1_pair 1 = .ok (.iconst 0, 1) := by decide +kernel
theorem dX1_pair_2 : decode cX1_pair 2 = .ok (.putfield 34, 3) := by decide +kernel
theorem dX1_pair_5 : decode cX1_pair 5 = .ok (.iload_n 1, 1) := by decide +kernel
theorem dX1_pair_6 : decode cX1_pair 6 = .ok (.iconst 0, 1) := by decide +kernel
theorem dX1_pair_7 : decode cX1_pair 7 = .ok (.aload_n 0, 1) := by decide +kernel
theorem dX1_pair_8 : decode cX1_pair 8 = .ok (.getfield 119, 3) := by decide +kernel
theorem dX1_pair_11 : decode cX1_pair 11 = .ok (.iconst 1, 1) := by decide +kernel
theorem dX1_pair_12 : decode cX1_pair 12 = .ok (.isub, 1) := by decide +kernel
theorem dX1_pair_13 : decode cX1_pair 13 = .ok (.invokestatic 41, 3) := by decide +kernel
theorem dX1_pair_16 : decode cX1_pair 16 = .ok (.ifCond .eq 25, 3) := by decide +kernel
theorem dX1_pair_19 : decode cX1_pair 19 = .ok (.iload_n 2, 1) := by decide +kernel
theorem dX1_pair_20 : decode cX1_pair 20 = .ok (.iconst 0, 1) := by decide +kernel
theorem dX1_pair_21 : decode cX1_pair 21 = .ok (.iconst 4, 1) := by decide +kernel
theorem dX1_pair_22 : decode cX1_pair 22 = .ok (.invokestatic 41, 3) := by decide +kernel
theorem dX1_pair_25 : decode cX1_pair 25 = .ok (.ifCond .eq 16, 3) := by decide +kernel
theorem dX1_pair_28 : decode cX1_pair 28 = .ok (.aload_n 0, 1) := by decide +kernel
theorem dX1_pair_29 : decode cX1_pair 29 = .ok (.getfield 28, 3) := by decide +kernel
theorem dX1_pair_32 : decode cX1_pair 32 = .ok (.iconst 5, 1) := by decide +kernel
theorem dX1_pair_33 : decode cX1_pair 33 = .ok (.iload_n 1, 1) := by decide +kernel
theorem dX1_pair_34 : decode cX1_pair 34 = .ok (.imul, 1) := by decide +kernel
theorem dX1_pair_35 : decode cX1_pair 35 = .ok (.iload_n 2, 1) := by decide +kernel
theorem dX1_pair_36 : decode cX1_pair 36 = .ok (.iadd, 1) := by decide +kernel
theorem dX1_pair_37 : decode cX1_pair 37 = .ok (.iaload, 1) := by decide +kernel
theorem dX1_pair_38 : decode cX1_pair 38 = .ok (.goto 8, 3) := by decide +kernel
theorem dX1_pair_41 : decode cX1_pair 41 = .ok (.aload_n 0, 1) := by decide +kernel
theorem dX1_pair_42 : decode cX1_pair 42 = .ok (.iconst 1, 1) := by decide +kernel
theorem dX1_pair_43 : decode cX1_pair 43 = .ok (.invokevirtual 52, 3) := by decide +kernel
theorem dX1_pair_46 : decode cX1_pair 46 = .ok (.ireturn, 1) := by decide +kernel
theorem dX1_counted_0 : decode cX1_counted 0 = .ok (.iconst 3, 1) := by decide +kernel
theorem dX1_counted_1 : decode cX1_counted 1 = .ok (.newarray .int, 2) := by decide +kernel
theorem dX1_counted_3 : decode cX1_counted 3 = .ok (.astore_n 2, 1) := by decide +kernel
theorem dX1_counted_4 : decode cX1_counted 4 = .ok (.iconst 0, 1) := by decide +kernel
theorem dX1_counted_5 : decode cX1_counted 5 = .ok (.istore_n 3, 1) := by decide +kernel
theorem dX1_counted_6 : decode cX1_counted 6 = .ok (.iconst 0, 1) := by decide +kernel
theorem dX1_counted_7 : decode cX1_counted 7 = .ok (.istore 4, 2) := by decide +kernel
theorem dX1_counted_9 : decode cX1_counted 9 = .ok (.iload 4, 2) := by decide +kernel
theorem dX1_counted_11 : decode cX1_counted 11 = .ok (.aload_n 0, 1) := by decide +kernel
theorem dX1_counted_12 : decode cX1_counted 12 = .ok (.getfield 67, 3) := by decide +kernel
theorem dX1_counted_15 : decode cX1_counted 15 = .ok (.if_icmp .ge 47, 3) := by decide +kernel
theorem dX1_counted_18 : decode cX1_counted 18 = .ok (.aload_n 2, 1) := by decide +kernel
theorem dX1_counted_19 : decode cX1_counted 19 = .ok (.aload_n 0, 1) := by decide +kernel
theorem dX1_counted_20 : decode cX1_counted 20 = .ok (.getfield 22, 3) := by decide +kernel
theorem dX1_counted_23 : decode cX1_counted 23 = .ok (.iload 4, 2) := by decide +kernel
theorem dX1_counted_25 : decode cX1_counted 25 = .ok (.iaload, 1) := by decide +kernel
theorem dX1_counted_26 : decode cX1_counted 26 = .ok (.iconst (-1), 1) := by decide +kernel
theorem dX1_counted_27 : decode cX1_counted 27 = .ok (.if_icmp .ne 7, 3) := by decide +kernel
theorem dX1_counted_30 : decode cX1_counted 30 = .ok (.iconst 0, 1) := by decide +kernel
theorem dX1_counted_31 : decode cX1_counted 31 = .ok (.goto 20, 3) := by decide +kernel
theorem dX1_counted_34 : decode cX1_counted 34 = .ok (.aload_n 0, 1) := by decide +kernel
theorem dX1_counted_35 : decode cX1_counted 35 = .ok (.getfield 22, 3) := by decide +kernel
theorem dX1_counted_38 : decode cX1_counted 38 = .ok (.iload 4, 2) := by decide +kernel
theorem dX1_counted_40 : decode cX1_counted 40 = .ok (.iaload, 1) := by decide +kernel
theorem dX1_counted_41 : decode cX1_counted 41 = .ok (.bipush (-2), 2) := by decide +kernel
theorem dX1_counted_43 : decode cX1_counted 43 = .ok (.if_icmp .ne 7, 3) := by decide +kernel
theorem dX1_counted_46 : decode cX1_counted 46 = .ok (.iconst 2, 1) := by decide +kernel
theorem dX1_counted_47 : decode cX1_counted 47 = .ok (.goto 4, 3) := by decide +kernel
theorem dX1_counted_50 : decode cX1_counted 50 = .ok (.iconst 1, 1) := by decide +kernel
theorem dX1_counted_51 : decode cX1_counted 51 = .ok (.dup2, 1) := by decide +kernel
theorem dX1_counted_52 : decode cX1_counted 52 = .ok (.iaload, 1) := by decide +kernel
theorem dX1_counted_53 : decode cX1_counted 53 = .ok (.iconst 1, 1) := by decide +kernel
theorem dX1_counted_54 : decode cX1_counted 54 = .ok (.iadd, 1) := by decide +kernel
theorem dX1_counted_55 : decode cX1_counted 55 = .ok (.iastore, 1) := by decide +kernel
theorem dX1_counted_56 : decode cX1_counted 56 = .ok (.iinc 4 1, 3) := by decide +kernel
theorem dX1_counted_59 : decode cX1_counted 59 = .ok (.goto (-50), 3) := by decide +kernel
theorem dX1_counted_62 : decode cX1_counted 62 = .ok (.iconst 0, 1) := by decide +kernel
theorem dX1_counted_63 : decode cX1_counted 63 = .ok (.istore 4, 2) := by decide +kernel
theorem dX1_counted_65 : decode cX1_counted 65 = .ok (.iload 4, 2) := by decide +kernel
theorem dX1_counted_67 : decode cX1_counted 67 = .ok (.aload_n 0, 1) := by decide +kernel
theorem dX1_counted_68 : decode cX1_counted 68 = .ok (.getfield 119, 3) := by decide +kernel
theorem dX1_counted_71 : decode cX1_counted 71 = .ok (.if_icmp .ge 25, 3) := by decide +kernel
theorem dX1_counted_74 : decode cX1_counted 74 = .ok (.iload_n 3, 1) := by decide +kernel
theorem dX1_counted_75 : decode cX1_counted 75 = .ok (.iconst 1, 1) := by decide +kernel
theorem dX1_counted_76 : decode cX1_counted 76 = .ok (.aload_n 0, 1) := by decide +kernel
theorem dX1_counted_77 : decode cX1_counted 77 = .ok (.getfield 28, 3) := by decide +kernel
theorem dX1_counted_80 : decode cX1_counted 80 = .ok (.iconst 5, 1) := by decide +kernel
theorem dX1_counted_81 : decode cX1_counted 81 = .ok (.iload 4, 2) := by decide +kernel
theorem dX1_counted_83 : decode cX1_counted 83 = .ok (.imul, 1) := by decide +kernel
theorem dX1_counted_84 : decode cX1_counted 84 = .ok (.iconst 4, 1) := by decide +kernel
theorem dX1_counted_85 : decode cX1_counted 85 = .ok (.iadd, 1) := by decide +kernel
theorem dX1_counted_86 : decode cX1_counted 86 = .ok (.iaload, 1) := by decide +kernel
theorem dX1_counted_87 : decode cX1_counted 87 = .ok (.isub, 1) := by decide +kernel
theorem dX1_counted_88 : decode cX1_counted 88 = .ok (.iadd, 1) := by decide +kernel
theorem dX1_counted_89 : decode cX1_counted 89 = .ok (.istore_n 3, 1) := by decide +kernel
theorem dX1_counted_90 : decode cX1_counted 90 = .ok (.iinc 4 1, 3) := by decide +kernel
theorem dX1_counted_93 : decode cX1_counted 93 = .ok (.goto (-28), 3) := by decide +kernel
theorem dX1_counted_96 : decode cX1_counted 96 = .ok (.bipush 7, 2) := by decide +kernel
theorem dX1_counted_98 : decode cX1_counted 98 = .ok (.newarray .int, 2) := by decide +kernel
theorem dX1_counted_100 : decode cX1_counted 100 = .ok (.dup, 1) := by decide +kernel
theorem dX1_counted_101 : decode cX1_counted 101 = .ok (.iconst 0, 1) := by decide +kernel
theorem dX1_counted_102 : decode cX1_counted 102 = .ok (.aload_n 0, 1) := by decide +kernel
theorem dX1_counted_103 : decode cX1_counted 103 = .ok (.getfield 38, 3) := by decide +kernel
theorem dX1_counted_106 : decode cX1_counted 106 = .ok (.iastore, 1) := by decide +kernel
theorem dX1_counted_107 : decode cX1_counted 107 = .ok (.dup, 1) := by decide +kernel
theorem dX1_counted_108 : decode cX1_counted 108 = .ok (.iconst 1, 1) := by decide +kernel
theorem dX1_counted_109 : decode cX1_counted 109 = .ok (.aload_n 0, 1) := by decide +kernel
theorem dX1_counted_110 : decode cX1_counted 110 = .ok (.getfield 67, 3) := by decide +kernel
theorem dX1_counted_113 : decode cX1_counted 113 = .ok (.iastore, 1) := by decide +kernel
theorem dX1_counted_114 : decode cX1_counted 114 = .ok (.dup, 1) := by decide +kernel
theorem dX1_counted_115 : decode cX1_counted 115 = .ok (.iconst 2, 1) := by decide +kernel
theorem dX1_counted_116 : decode cX1_counted 116 = .ok (.aload_n 2, 1) := by decide +kernel
theorem dX1_counted_117 : decode cX1_counted 117 = .ok (.iconst 0, 1) := by decide +kernel
theorem dX1_counted_118 : decode cX1_counted 118 = .ok (.iaload, 1) := by decide +kernel
theorem dX1_counted_119 : decode cX1_counted 119 = .ok (.iastore, 1) := by decide +kernel
theorem dX1_counted_120 : decode cX1_counted 120 = .ok (.dup, 1) := by decide +kernel
theorem dX1_counted_121 : decode cX1_counted 121 = .ok (.iconst 3, 1) := by decide +kernel
theorem dX1_counted_122 : decode cX1_counted 122 = .ok (.aload_n 2, 1) := by decide +kernel
theorem dX1_counted_123 : decode cX1_counted 123 = .ok (.iconst 1, 1) := by decide +kernel
theorem dX1_counted_124 : decode cX1_counted 124 = .ok (.iaload, 1) := by decide +kernel
theorem dX1_counted_125 : decode cX1_counted 125 = .ok (.iastore, 1) := by decide +kernel
theorem dX1_counted_126 : decode cX1_counted 126 = .ok (.dup, 1) := by decide +kernel
theorem dX1_counted_127 : decode cX1_counted 127 = .ok (.iconst 4, 1) := by decide +kernel
theorem dX1_counted_128 : decode cX1_counted 128 = .ok (.aload_n 2, 1) := by decide +kernel
theorem dX1_counted_129 : decode cX1_counted 129 = .ok (.iconst 2, 1) := by decide +kernel
theorem dX1_counted_130 : decode cX1_counted 130 = .ok (.iaload, 1) := by decide +kernel
theorem dX1_counted_131 : decode cX1_counted 131 = .ok (.iastore, 1) := by decide +kernel
theorem dX1_counted_132 : decode cX1_counted 132 = .ok (.dup, 1) := by decide +kernel
theorem dX1_counted_133 : decode cX1_counted 133 = .ok (.iconst 5, 1) := by decide +kernel
theorem dX1_counted_134 : decode cX1_counted 134 = .ok (.aload_n 0, 1) := by decide +kernel
theorem dX1_counted_135 : decode cX1_counted 135 = .ok (.getfield 119, 3) := by decide +kernel
theorem dX1_counted_138 : decode cX1_counted 138 = .ok (.iastore, 1) := by decide +kernel
theorem dX1_counted_139 : decode cX1_counted 139 = .ok (.dup, 1) := by decide +kernel
theorem dX1_counted_140 : decode cX1_counted 140 = .ok (.bipush 6, 2) := by decide +kernel
theorem dX1_counted_142 : decode cX1_counted 142 = .ok (.iload_n 3, 1) := by decide +kernel
theorem dX1_counted_143 : decode cX1_counted 143 = .ok (.iastore, 1) := by decide +kernel
theorem dX1_counted_144 : decode cX1_counted 144 = .ok (.astore 4, 2) := by decide +kernel
theorem dX1_counted_146 : decode cX1_counted 146 = .ok (.aload 4, 2) := by decide +kernel
theorem dX1_counted_148 : decode cX1_counted 148 = .ok (.iload_n 1, 1) := by decide +kernel
theorem dX1_counted_149 : decode cX1_counted 149 = .ok (.iaload, 1) := by decide +kernel
theorem dX1_counted_150 : decode cX1_counted 150 = .ok (.ireturn, 1) := by decide +kernel
set_option maxRecDepth 20000 in
theorem ggX1_count_X1_isIn : GoodIn wsX1_count wsX1_isIn := goodIn_r _ [5] (by decide +kernel) (by decide +kernel)
set_option maxRecDepth 20000 in
theorem gX1_count_X1_isIn : GoodIn wsX1_count (va_wsS RX1 41 yX1_isIn wsX1_isIn) := goodIn_app (goodIn_of _ (by decide +kernel)) ggX1_count_X1_isIn
set_option maxRecDepth 20000 in
theorem ggX1_count_X1_counted : GoodIn wsX1_count wsX1_counted := goodIn_r _ [9, 10, 11, 12, 13, 14, 15, 20, 21, 22, 23, 24, 25, 26, 27, 28, 29, 30, 31] (by decide +kernel) (by decide +kernel)
set_option maxRecDepth 20000 in
theorem gX1_count_X1_counted : GoodIn wsX1_count (wsV RX1 140 RX1 yX1_counted wsX1_counted) := goodIn_app (goodIn_of _ (by decide +kernel)) ggX1_count_X1_counted
set_option maxRecDepth 20000 in
theorem ggX1_count_X1_no : GoodIn wsX1_count wsX1_no := goodIn_r _ [19, 1, 20, 21, 22, 23, 24, 25, 26, 27, 28, 29, 30, 31] (by decide +kernel) (by decide +kernel)
set_option maxRecDepth 20000 in
theorem gX1_count_X1_no : GoodIn wsX1_count (wsV RX1 52 RX1 yX1_no wsX1_no) := goodIn_app (goodIn_of _ (by decide +kernel)) ggX1_count_X1_no
theorem dX1_count_0 : decode cX1_count 0 = .ok (.aload_n 0, 1) := by decide +kernel
theorem dX1_count_1 : decode cX1_count 1 = .ok (.iconst 0, 1) := by decide +kernel
theorem dX1_count_2 : decode cX1_count 2 = .ok (.putfield 34, 3) := by decide +kernel
theorem dX1_count_5 : decode cX1_count 5 = .ok (.iload_n 1, 1) := by decide +kernel
theorem dX1_count_6 : decode cX1_count 6 = .ok (.iconst 0, 1) := by decide +kernel
theorem dX1_count_7 : decode cX1_count 7 = .ok (.bipush 6, 2) := by decide +kernel
theorem dX1_count_9 : decode cX1_count 9 = .ok (.invokestatic 41, 3) := by decide +kernel
theorem dX1_count_12 : decode cX1_count 12 = .ok (.ifCond .eq 11, 3) := by decide +kernel
theorem dX1_count_15 : decode cX1_count 15 = .ok (.aload_n 0, 1) := by decide +kernel
theorem dX1_count_16 : decode cX1_count 16 = .ok (.iload_n 1, 1) := by decide +kernel
theorem dX1_count_17 : decode cX1_count 17 = .ok (.invokevirtual 140, 3) := by decide +kernel
theorem dX1_count_20 : decode cX1_count 20 = .ok (.goto 8, 3) := by decide +kernel
theorem dX1_count_23 : decode cX1_count 23 = .ok (.aload_n 0, 1) := by decide +kernel
theorem dX1_count_24 : decode cX1_count 24 = .ok (.iconst 1, 1) := by decide +kernel
theorem dX1_count_25 : decode cX1_count 25 = .ok (.invokevirtual 52, 3) := by decide +kernel
theorem dX1_count_28 : decode cX1_count 28 = .ok (.ireturn, 1) := by decide +kernel
set_option maxRecDepth 20000 in
theorem ggX1_given_X1_first : GoodIn wsX1_given wsX1_first := goodIn_r _ [10, 11, 12, 9, 13, 14, 15, 16, 17, 18, 19, 20, 21, 22, 23, 24] (by decide +kernel) (by decide +kernel)
set_option maxRecDepth 20000 in
theorem gX1_given_X1_first : GoodIn wsX1_given (va_wsS RX1 97 yX1_first wsX1_first) := goodIn_app (goodIn_of _ (by decide +kernel)) ggX1_given_X1_first
set_option maxRecDepth 20000 in
theorem ggX1_given_X1_wideOf : GoodIn wsX1_given wsX1_wideOf := goodIn_r _ [16, 17, 18] (by decide +kernel) (by decide +kernel)
set_option maxRecDepth 20000 in
theorem gX1_given_X1_wideOf : GoodIn wsX1_given (va_wsS RX1 83 yX1_wideOf wsX1_wideOf) := goodIn_app (goodIn_of _ (by decide +kernel)) ggX1_given_X1_wideOf
set_option maxRecDepth 20000 in
theorem ggX1_given_X1_highOf : GoodIn wsX1_given wsX1_highOf := goodIn_r _ [21, 18, 17] (by decide +kernel) (by decide +kernel)
set_option maxRecDepth 20000 in
theorem gX1_given_X1_highOf : GoodIn wsX1_given (va_wsS RX1 87 yX1_highOf wsX1_highOf) := goodIn_app (goodIn_of _ (by decide +kernel)) ggX1_given_X1_highOf
set_option maxRecDepth 20000 in
theorem ggX1_given_X1_fill : GoodIn wsX1_given wsX1_fill := goodIn_r _ [27] (by decide +kernel) (by decide +kernel)
set_option maxRecDepth 20000 in
theorem gX1_given_X1_fill : GoodIn wsX1_given (va_wsS RX1 63 yX1_fill wsX1_fill) := goodIn_app (goodIn_of _ (by decide +kernel)) ggX1_given_X1_fill
theorem dX1_given_0 : decode cX1_given 0 = .ok (.aload_n 0, 1) := by decide +kernel
theorem dX1_given_1 : decode cX1_given 1 = .ok (.getfield 13, 3) := by decide +kernel
theorem dX1_given_4 : decode cX1_given 4 = .ok (.bipush 96, 2) := by decide +kernel
theorem dX1_given_6 : decode cX1_given 6 = .ok (.iload_n 1, 1) := by decide +kernel
theorem dX1_given_7 : decode cX1_given 7 = .ok (.imul, 1) := by decide +kernel
theorem dX1_given_8 : decode cX1_given 8 = .ok (.aload_n 0, 1) := by decide +kernel
theorem dX1_given_9 : decode cX1_given 9 = .ok (.getfield 31, 3) := by decide +kernel
theorem dX1_given_12 : decode cX1_given 12 = .ok (.iconst 0, 1) := by decide +kernel
theorem dX1_given_13 : decode cX1_given 13 = .ok (.bipush 96, 2) := by decide +kernel
theorem dX1_given_15 : decode cX1_given 15 = .ok (.invokestatic 134, 3) := by decide +kernel
theorem dX1_given_18 : decode cX1_given 18 = .ok (.iconst 0, 1) := by decide +kernel
theorem dX1_given_19 : decode cX1_given 19 = .ok (.istore 4, 2) := by decide +kernel
theorem dX1_given_21 : decode cX1_given 21 = .ok (.aload_n 0, 1) := by decide +kernel
theorem dX1_given_22 : decode cX1_given 22 = .ok (.getfield 31, 3) := by decide +kernel
theorem dX1_given_25 : decode cX1_given 25 = .ok (.iconst 0, 1) := by decide +kernel
theorem dX1_given_26 : decode cX1_given 26 = .ok (.iload_n 2, 1) := by decide +kernel
theorem dX1_given_27 : decode cX1_given 27 = .ok (.iload_n 3, 1) := by decide +kernel
theorem dX1_given_28 : decode cX1_given 28 = .ok (.invokestatic 97, 3) := by decide +kernel
theorem dX1_given_31 : decode cX1_given 31 = .ok (.istore 5, 2) := by decide +kernel
theorem dX1_given_33 : decode cX1_given 33 = .ok (.iload 5, 2) := by decide +kernel
theorem dX1_given_35 : decode cX1_given 35 = .ok (.iconst (-1), 1) := by decide +kernel
theorem dX1_given_36 : decode cX1_given 36 = .ok (.if_icmp .eq 41, 3) := by decide +kernel
theorem dX1_given_39 : decode cX1_given 39 = .ok (.aload_n 0, 1) := by decide +kernel
theorem dX1_given_40 : decode cX1_given 40 = .ok (.getfield 31, 3) := by decide +kernel
theorem dX1_given_43 : decode cX1_given 43 = .ok (.iload 5, 2) := by decide +kernel
theorem dX1_given_45 : decode cX1_given 45 = .ok (.iload_n 2, 1) := by decide +kernel
theorem dX1_given_46 : decode cX1_given 46 = .ok (.iload_n 3, 1) := by decide +kernel
theorem dX1_given_47 : decode cX1_given 47 = .ok (.invokestatic 83, 3) := by decide +kernel
theorem dX1_given_50 : decode cX1_given 50 = .ok (.iload_n 2, 1) := by decide +kernel
theorem dX1_given_51 : decode cX1_given 51 = .ok (.iload_n 3, 1) := by decide +kernel
theorem dX1_given_52 : decode cX1_given 52 = .ok (.invokestatic 87, 3) := by decide +kernel
theorem dX1_given_55 : decode cX1_given 55 = .ok (.iconst 3, 1) := by decide +kernel
theorem dX1_given_56 : decode cX1_given 56 = .ok (.invokestatic 63, 3) := by decide +kernel
theorem dX1_given_59 : decode cX1_given 59 = .ok (.iinc 4 1, 3) := by decide +kernel
theorem dX1_given_62 : decode cX1_given 62 = .ok (.aload_n 0, 1) := by decide +kernel
theorem dX1_given_63 : decode cX1_given 63 = .ok (.getfield 31, 3) := by decide +kernel
theorem dX1_given_66 : decode cX1_given 66 = .ok (.iconst 0, 1) := by decide +kernel
theorem dX1_given_67 : decode cX1_given 67 = .ok (.iload_n 2, 1) := by decide +kernel
theorem dX1_given_68 : decode cX1_given 68 = .ok (.iload_n 3, 1) := by decide +kernel
theorem dX1_given_69 : decode cX1_given 69 = .ok (.invokestatic 97, 3) := by decide +kernel
theorem dX1_given_72 : decode cX1_given 72 = .ok (.istore 5, 2) := by decide +kernel
theorem dX1_given_74 : decode cX1_given 74 = .ok (.goto (-41), 3) := by decide +kernel
theorem dX1_given_77 : decode cX1_given 77 = .ok (.iload 4, 2) := by decide +kernel
theorem dX1_given_79 : decode cX1_given 79 = .ok (.ireturn, 1) := by decide +kernel
set_option maxRecDepth 20000 in
theorem ggX1_gives_X1_isSkin : GoodIn wsX1_gives wsX1_isSkin := goodIn_r _ [6, 7, 8, 9, 5, 10, 48, 49, 50, 51, 52, 53, 54, 55, 56, 57, 58, 59] (by decide +kernel) (by decide +kernel)
set_option maxRecDepth 20000 in
theorem gX1_gives_X1_isSkin : GoodIn wsX1_gives (wsV RX1 45 RX1 yX1_isSkin wsX1_isSkin) := goodIn_app (goodIn_of _ (by decide +kernel)) ggX1_gives_X1_isSkin
set_option maxRecDepth 20000 in
theorem ggX1_gives_X1_no : GoodIn wsX1_gives wsX1_no := goodIn_r _ [14, 1, 48, 49, 50, 51, 52, 53, 54, 55, 56, 57, 58, 59] (by decide +kernel) (by decide +kernel)
set_option maxRecDepth 20000 in
theorem gX1_gives_X1_no : GoodIn wsX1_gives (wsV RX1 52 RX1 yX1_no wsX1_no) := goodIn_app (goodIn_of _ (by decide +kernel)) ggX1_gives_X1_no
set_option maxRecDepth 20000 in
theorem ggX1_gives_X1_isKind : GoodIn wsX1_gives wsX1_isKind := goodIn_r _ [17, 8, 9, 5, 10] (by decide +kernel) (by decide +kernel)
set_option maxRecDepth 20000 in
theorem gX1_gives_X1_isKind : GoodIn wsX1_gives (va_wsS RX1 94 yX1_isKind wsX1_isKind) := goodIn_app (goodIn_of _ (by decide +kernel)) ggX1_gives_X1_isKind
set_option maxRecDepth 20000 in
theorem ggX1_gives_X1_given : GoodIn wsX1_gives wsX1_given := goodIn_r _ [21, 22, 23, 24, 25, 26, 27, 28, 29, 5, 30, 31, 32, 33, 34, 35, 36, 37, 38, 39, 40, 41, 42, 43, 44, 45, 46, 47, 48, 49, 50, 51, 52, 53, 54, 55, 56, 57, 58, 59] (by decide +kernel) (by decide +kernel)
set_option maxRecDepth 20000 in
theorem gX1_gives_X1_given : GoodIn wsX1_gives (wsV RX1 143 RX1 yX1_given wsX1_given) := goodIn_app (goodIn_of _ (by decide +kernel)) ggX1_gives_X1_given
theorem dX1_gives_0 : decode cX1_gives 0 = .ok (.aload_n 0, 1) := by decide +kernel
theorem dX1_gives_1 : decode cX1_gives 1 = .ok (.iconst 0, 1) := by decide +kernel
theorem dX1_gives_2 : decode cX1_gives 2 = .ok (.putfield 34, 3) := by decide +kernel
theorem dX1_gives_5 : decode cX1_gives 5 = .ok (.aload_n 0, 1) := by decide +kernel
theorem dX1_gives_6 : decode cX1_gives 6 = .ok (.iload_n 1, 1) := by decide +kernel
theorem dX1_gives_7 : decode cX1_gives 7 = .ok (.invokevirtual 45, 3) := by decide +kernel
theorem dX1_gives_10 : decode cX1_gives 10 = .ok (.ifCond .ne 9, 3) := by decide +kernel
theorem dX1_gives_13 : decode cX1_gives 13 = .ok (.aload_n 0, 1) := by decide +kernel
theorem dX1_gives_14 : decode cX1_gives 14 = .ok (.iconst 1, 1) := by decide +kernel
theorem dX1_gives_15 : decode cX1_gives 15 = .ok (.invokevirtual 52, 3) := by decide +kernel
theorem dX1_gives_18 : decode cX1_gives 18 = .ok (.ireturn, 1) := by decide +kernel
theorem dX1_gives_19 : decode cX1_gives 19 = .ok (.iload_n 2, 1) := by decide +kernel
theorem dX1_gives_20 : decode cX1_gives 20 = .ok (.invokestatic 94, 3) := by decide +kernel
theorem dX1_gives_23 : decode cX1_gives 23 = .ok (.ifCond .eq 13, 3) := by decide +kernel
theorem dX1_gives_26 : decode cX1_gives 26 = .ok (.aload_n 0, 1) := by decide +kernel
theorem dX1_gives_27 : decode cX1_gives 27 = .ok (.iload_n 1, 1) := by decide +kernel
theorem dX1_gives_28 : decode cX1_gives 28 = .ok (.iload_n 2, 1) := by decide +kernel
theorem dX1_gives_29 : decode cX1_gives 29 = .ok (.iload_n 3, 1) := by decide +kernel
theorem dX1_gives_30 : decode cX1_gives 30 = .ok (.invokevirtual 143, 3) := by decide +kernel
theorem dX1_gives_33 : decode cX1_gives 33 = .ok (.goto 8, 3) := by decide +kernel
theorem dX1_gives_36 : decode cX1_gives 36 = .ok (.aload_n 0, 1) := by decide +kernel
theorem dX1_gives_37 : decode cX1_gives 37 = .ok (.iconst 2, 1) := by decide +kernel
theorem dX1_gives_38 : decode cX1_gives 38 = .ok (.invokevirtual 52, 3) := by decide +kernel
theorem dX1_gives_41 : decode cX1_gives 41 = .ok (.ireturn, 1) := by decide +kernel
set_option maxRecDepth 20000 in
theorem ggX1_best_X1_isKind : GoodIn wsX1_best wsX1_isKind := goodIn_r _ [6, 7, 8, 5, 9] (by decide +kernel) (by decide +kernel)
set_option maxRecDepth 20000 in
theorem gX1_best_X1_isKind : GoodIn wsX1_best (va_wsS RX1 94 yX1_isKind wsX1_isKind) := goodIn_app (goodIn_of _ (by decide +kernel)) ggX1_best_X1_isKind
set_option maxRecDepth 20000 in
theorem ggX1_best_X1_no : GoodIn wsX1_best wsX1_no := goodIn_r _ [13, 1, 44, 45, 46, 47, 48, 49, 50, 51, 52, 53, 54, 55] (by decide +kernel) (by decide +kernel)
set_option maxRecDepth 20000 in
theorem gX1_best_X1_no : GoodIn wsX1_best (wsV RX1 52 RX1 yX1_no wsX1_no) := goodIn_app (goodIn_of _ (by decide +kernel)) ggX1_best_X1_no
set_option maxRecDepth 20000 in
theorem ggX1_best_X1_given : GoodIn wsX1_best wsX1_given := goodIn_r _ [17, 18, 19, 20, 21, 22, 23, 24, 25, 5, 26, 27, 28, 29, 30, 31, 32, 33, 34, 35, 36, 37, 38, 39, 40, 41, 42, 43, 44, 45, 46, 47, 48, 49, 50, 51, 52, 53, 54, 55] (by decide +kernel) (by decide +kernel)
set_option maxRecDepth 20000 in
theorem gX1_best_X1_given : GoodIn wsX1_best (wsV RX1 143 RX1 yX1_given wsX1_given) := goodIn_app (goodIn_of _ (by decide +kernel)) ggX1_best_X1_given
theorem dX1_best_0 : decode cX1_best 0 = .ok (.aload_n 0, 1) := by decide +kernel
theorem dX1_best_1 : decode cX1_best 1 = .ok (.iconst 0, 1) := by decide +kernel
theorem dX1_best_2 : decode cX1_best 2 = .ok (.putfield 34, 3) := by decide +kernel
theorem dX1_best_5 : decode cX1_best 5 = .ok (.iload_n 1, 1) := by decide +kernel
theorem dX1_best_6 : decode cX1_best 6 = .ok (.invokestatic 94, 3) := by decide +kernel
theorem dX1_best_9 : decode cX1_best 9 = .ok (.ifCond .ne 9, 3) := by decide +kernel
theorem dX1_best_12 : decode cX1_best 12 = .ok (.aload_n 0, 1) := by decide +kernel
theorem dX1_best_13 : decode cX1_best 13 = .ok (.iconst 1, 1) := by decide +kernel
theorem dX1_best_14 : decode cX1_best 14 = .ok (.invokevirtual 52, 3) := by decide +kernel
theorem dX1_best_17 : decode cX1_best 17 = .ok (.ireturn, 1) := by decide +kernel
theorem dX1_best_18 : decode cX1_best 18 = .ok (.iconst (-1), 1) := by decide +kernel
theorem dX1_best_19 : decode cX1_best 19 = .ok (.istore_n 3, 1) := by decide +kernel
theorem dX1_best_20 : decode cX1_best 20 = .ok (.iconst 0, 1) := by decide +kernel
theorem dX1_best_21 : decode cX1_best 21 = .ok (.istore 4, 2) := by decide +kernel
theorem dX1_best_23 : decode cX1_best 23 = .ok (.iconst 0, 1) := by decide +kernel
theorem dX1_best_24 : decode cX1_best 24 = .ok (.istore 5, 2) := by decide +kernel
theorem dX1_best_26 : decode cX1_best 26 = .ok (.iload 5, 2) := by decide +kernel
theorem dX1_best_28 : decode cX1_best 28 = .ok (.aload_n 0, 1) := by decide +kernel
theorem dX1_best_29 : decode cX1_best 29 = .ok (.getfield 38, 3) := by decide +kernel
theorem dX1_best_32 : decode cX1_best 32 = .ok (.if_icmp .ge 36, 3) := by decide +kernel
theorem dX1_best_35 : decode cX1_best 35 = .ok (.aload_n 0, 1) := by decide +kernel
theorem dX1_best_36 : decode cX1_best 36 = .ok (.iload 5, 2) := by decide +kernel
theorem dX1_best_38 : decode cX1_best 38 = .ok (.iload_n 1, 1) := by decide +kernel
theorem dX1_best_39 : decode cX1_best 39 = .ok (.iload_n 2, 1) := by decide +kernel
theorem dX1_best_40 : decode cX1_best 40 = .ok (.invokevirtual 143, 3) := by decide +kernel
theorem dX1_best_43 : decode cX1_best 43 = .ok (.istore 6, 2) := by decide +kernel
theorem dX1_best_45 : decode cX1_best 45 = .ok (.iload 6, 2) := by decide +kernel
theorem dX1_best_47 : decode cX1_best 47 = .ok (.iload 4, 2) := by decide +kernel
theorem dX1_best_49 : decode cX1_best 49 = .ok (.if_icmp .gt 6, 3) := by decide +kernel
theorem dX1_best_52 : decode cX1_best 52 = .ok (.goto 10, 3) := by decide +kernel
theorem dX1_best_55 : decode cX1_best 55 = .ok (.iload 6, 2) := by decide +kernel
theorem dX1_best_57 : decode cX1_best 57 = .ok (.istore 4, 2) := by decide +kernel
theorem dX1_best_59 : decode cX1_best 59 = .ok (.iload 5, 2) := by decide +kernel
theorem dX1_best_61 : decode cX1_best 61 = .ok (.istore_n 3, 1) := by decide +kernel
theorem dX1_best_62 : decode cX1_best 62 = .ok (.iinc 5 1, 3) := by decide +kernel
theorem dX1_best_65 : decode cX1_best 65 = .ok (.goto (-39), 3) := by decide +kernel
theorem dX1_best_68 : decode cX1_best 68 = .ok (.iload_n 3, 1) := by decide +kernel
theorem dX1_best_69 : decode cX1_best 69 = .ok (.ireturn, 1) := by decide +kernel
set_option maxRecDepth 20000 in
theorem ggX1_lacks_X1_isColour : GoodIn wsX1_lacks wsX1_isColour := goodIn_r _ [12, 13, 14, 11, 15] (by decide +kernel) (by decide +kernel)
set_option maxRecDepth 20000 in
theorem gX1_lacks_X1_isColour : GoodIn wsX1_lacks (va_wsS RX1 49 yX1_isColour wsX1_isColour) := goodIn_app (goodIn_of _ (by decide +kernel)) ggX1_lacks_X1_isColour
set_option maxRecDepth 20000 in
theorem ggX1_lacks_X1_isKind : GoodIn wsX1_lacks wsX1_isKind := goodIn_r _ [18, 13, 14, 11, 15] (by decide +kernel) (by decide +kernel)
set_option maxRecDepth 20000 in
theorem gX1_lacks_X1_isKind : GoodIn wsX1_lacks (va_wsS RX1 94 yX1_isKind wsX1_isKind) := goodIn_app (goodIn_of _ (by decide +kernel)) ggX1_lacks_X1_isKind
set_option maxRecDepth 20000 in
theorem ggX1_lacks_X1_no : GoodIn wsX1_lacks wsX1_no := goodIn_r _ [22, 1, 39, 40, 41, 42, 43, 44, 45, 46, 47, 48, 49, 50] (by decide +kernel) (by decide +kernel)
set_option maxRecDepth 20000 in
theorem gX1_lacks_X1_no : GoodIn wsX1_lacks (wsV RX1 52 RX1 yX1_no wsX1_no) := goodIn_app (goodIn_of _ (by decide +kernel)) ggX1_lacks_X1_no
set_option maxRecDepth 20000 in
theorem ggX1_lacks_X1_free : GoodIn wsX1_lacks wsX1_free := goodIn_r _ [26, 27, 28, 29, 30, 11, 31, 32, 33, 3, 34, 39, 40, 41, 42, 43, 44, 45, 46, 47, 48, 49, 50] (by decide +kernel) (by decide +kernel)
set_option maxRecDepth 20000 in
theorem gX1_lacks_X1_free : GoodIn wsX1_lacks (wsV RX1 113 RX1 yX1_free wsX1_free) := goodIn_app (goodIn_of _ (by decide +kernel)) ggX1_lacks_X1_free
set_option maxRecDepth 20000 in
theorem ggX1_lacks_X1_tranks : GoodIn wsX1_lacks wsX1_tranks := goodIn_r _ [38, 27, 34, 3, 28, 29, 30, 11, 31, 32, 33, 39, 40, 41, 42, 43, 44, 45, 46, 47, 48, 49, 50] (by decide +kernel) (by decide +kernel)
set_option maxRecDepth 20000 in
theorem gX1_lacks_X1_tranks : GoodIn wsX1_lacks (wsV RX1 107 RX1 yX1_tranks wsX1_tranks) := goodIn_app (goodIn_of _ (by decide +kernel)) ggX1_lacks_X1_tranks
theorem dX1_lacks_0 : decode cX1_lacks 0 = .ok (.aload_n 0, 1) := by decide +kernel
theorem dX1_lacks_1 : decode cX1_lacks 1 = .ok (.iconst 0, 1) := by decide +kernel
theorem dX1_lacks_2 : decode cX1_lacks 2 = .ok (.putfield 34, 3) := by decide +kernel
theorem dX1_lacks_5 : decode cX1_lacks 5 = .ok (.iload_n 1, 1) := by decide +kernel
theorem dX1_lacks_6 : decode cX1_lacks 6 = .ok (.invokestatic 49, 3) := by decide +kernel
theorem dX1_lacks_9 : decode cX1_lacks 9 = .ok (.ifCond .eq 10, 3) := by decide +kernel
theorem dX1_lacks_12 : decode cX1_lacks 12 = .ok (.iload_n 2, 1) := by decide +kernel
theorem dX1_lacks_13 : decode cX1_lacks 13 = .ok (.invokestatic 94, 3) := by decide +kernel
theorem dX1_lacks_16 : decode cX1_lacks 16 = .ok (.ifCond .ne 9, 3) := by decide +kernel
theorem dX1_lacks_19 : decode cX1_lacks 19 = .ok (.aload_n 0, 1) := by decide +kernel
theorem dX1_lacks_20 : decode cX1_lacks 20 = .ok (.iconst 1, 1) := by decide +kernel
theorem dX1_lacks_21 : decode cX1_lacks 21 = .ok (.invokevirtual 52, 3) := by decide +kernel
theorem dX1_lacks_24 : decode cX1_lacks 24 = .ok (.ireturn, 1) := by decide +kernel
theorem dX1_lacks_25 : decode cX1_lacks 25 = .ok (.iload_n 2, 1) := by decide +kernel
theorem dX1_lacks_26 : decode cX1_lacks 26 = .ok (.ifCond .ne 7, 3) := by decide +kernel
theorem dX1_lacks_29 : decode cX1_lacks 29 = .ok (.iconst 0, 1) := by decide +kernel
theorem dX1_lacks_30 : decode cX1_lacks 30 = .ok (.goto 9, 3) := by decide +kernel
theorem dX1_lacks_33 : decode cX1_lacks 33 = .ok (.aload_n 0, 1) := by decide +kernel
theorem dX1_lacks_34 : decode cX1_lacks 34 = .ok (.iload_n 1, 1) := by decide +kernel
theorem dX1_lacks_35 : decode cX1_lacks 35 = .ok (.iload_n 2, 1) := by decide +kernel
theorem dX1_lacks_36 : decode cX1_lacks 36 = .ok (.invokevirtual 113, 3) := by decide +kernel
theorem dX1_lacks_39 : decode cX1_lacks 39 = .ok (.istore_n 3, 1) := by decide +kernel
theorem dX1_lacks_40 : decode cX1_lacks 40 = .ok (.iconst 0, 1) := by decide +kernel
theorem dX1_lacks_41 : decode cX1_lacks 41 = .ok (.istore 4, 2) := by decide +kernel
theorem dX1_lacks_43 : decode cX1_lacks 43 = .ok (.iload 4, 2) := by decide +kernel
theorem dX1_lacks_45 : decode cX1_lacks 45 = .ok (.aload_n 0, 1) := by decide +kernel
theorem dX1_lacks_46 : decode cX1_lacks 46 = .ok (.getfield 38, 3) := by decide +kernel
theorem dX1_lacks_49 : decode cX1_lacks 49 = .ok (.if_icmp .ge 35, 3) := by decide +kernel
theorem dX1_lacks_52 : decode cX1_lacks 52 = .ok (.iload_n 2, 1) := by decide +kernel
theorem dX1_lacks_53 : decode cX1_lacks 53 = .ok (.ifCond .ne 31, 3) := by decide +kernel
theorem dX1_lacks_56 : decode cX1_lacks 56 = .ok (.aload_n 0, 1) := by decide +kernel
theorem dX1_lacks_57 : decode cX1_lacks 57 = .ok (.getfield 9, 3) := by decide +kernel
theorem dX1_lacks_60 : decode cX1_lacks 60 = .ok (.iload 4, 2) := by decide +kernel
theorem dX1_lacks_62 : decode cX1_lacks 62 = .ok (.iaload, 1) := by decide +kernel
theorem dX1_lacks_63 : decode cX1_lacks 63 = .ok (.iload_n 1, 1) := by decide +kernel
theorem dX1_lacks_64 : decode cX1_lacks 64 = .ok (.if_icmp .ne 14, 3) := by decide +kernel
theorem dX1_lacks_67 : decode cX1_lacks 67 = .ok (.iload_n 3, 1) := by decide +kernel
theorem dX1_lacks_68 : decode cX1_lacks 68 = .ok (.aload_n 0, 1) := by decide +kernel
theorem dX1_lacks_69 : decode cX1_lacks 69 = .ok (.iload 4, 2) := by decide +kernel
theorem dX1_lacks_71 : decode cX1_lacks 71 = .ok (.invokevirtual 107, 3) := by decide +kernel
theorem dX1_lacks_74 : decode cX1_lacks 74 = .ok (.invokestatic 147, 3) := by decide +kernel
theorem dX1_lacks_77 : decode cX1_lacks 77 = .ok (.istore_n 3, 1) := by decide +kernel
theorem dX1_lacks_78 : decode cX1_lacks 78 = .ok (.iinc 4 1, 3) := by decide +kernel
theorem dX1_lacks_81 : decode cX1_lacks 81 = .ok (.goto (-38), 3) := by decide +kernel
theorem dX1_lacks_84 : decode cX1_lacks 84 = .ok (.iconst 0, 1) := by decide +kernel
theorem dX1_lacks_85 : decode cX1_lacks 85 = .ok (.getstatic 116, 3) := by decide +kernel
theorem dX1_lacks_88 : decode cX1_lacks 88 = .ok (.iload_n 2, 1) := by decide +kernel
theorem dX1_lacks_89 : decode cX1_lacks 89 = .ok (.iaload, 1) := by decide +kernel
theorem dX1_lacks_90 : decode cX1_lacks 90 = .ok (.iload_n 3, 1) := by decide +kernel
theorem dX1_lacks_91 : decode cX1_lacks 91 = .ok (.isub, 1) := by decide +kernel
theorem dX1_lacks_92 : decode cX1_lacks 92 = .ok (.invokestatic 147, 3) := by decide +kernel
theorem dX1_lacks_95 : decode cX1_lacks 95 = .ok (.ireturn, 1) := by decide +kernel
set_option maxRecDepth 20000 in
theorem ggX1_pairs_X1_isColour : GoodIn wsX1_pairs wsX1_isColour := goodIn_r _ [12, 13, 14, 11, 15] (by decide +kernel) (by decide +kernel)
set_option maxRecDepth 20000 in
theorem gX1_pairs_X1_isColour : GoodIn wsX1_pairs (va_wsS RX1 49 yX1_isColour wsX1_isColour) := goodIn_app (goodIn_of _ (by decide +kernel)) ggX1_pairs_X1_isColour
set_option maxRecDepth 20000 in
theorem ggX1_pairs_X1_no : GoodIn wsX1_pairs wsX1_no := goodIn_r _ [19, 1, 36, 37, 38, 39, 40, 41, 42, 43, 44, 45, 46, 47] (by decide +kernel) (by decide +kernel)
set_option maxRecDepth 20000 in
theorem gX1_pairs_X1_no : GoodIn wsX1_pairs (wsV RX1 52 RX1 yX1_no wsX1_no) := goodIn_app (goodIn_of _ (by decide +kernel)) ggX1_pairs_X1_no
set_option maxRecDepth 20000 in
theorem ggX1_pairs_X1_tranks : GoodIn wsX1_pairs wsX1_tranks := goodIn_r _ [23, 24, 25, 3, 26, 27, 28, 11, 29, 30, 31, 36, 37, 38, 39, 40, 41, 42, 43, 44, 45, 46, 47] (by decide +kernel) (by decide +kernel)
set_option maxRecDepth 20000 in
theorem gX1_pairs_X1_tranks : GoodIn wsX1_pairs (wsV RX1 107 RX1 yX1_tranks wsX1_tranks) := goodIn_app (goodIn_of _ (by decide +kernel)) ggX1_pairs_X1_tranks
set_option maxRecDepth 20000 in
theorem ggX1_pairs_X1_free : GoodIn wsX1_pairs wsX1_free := goodIn_r _ [35, 24, 26, 27, 28, 11, 29, 30, 31, 3, 25, 36, 37, 38, 39, 40, 41, 42, 43, 44, 45, 46, 47] (by decide +kernel) (by decide +kernel)
set_option maxRecDepth 20000 in
theorem gX1_pairs_X1_free : GoodIn wsX1_pairs (wsV RX1 113 RX1 yX1_free wsX1_free) := goodIn_app (goodIn_of _ (by decide +kernel)) ggX1_pairs_X1_free
theorem dX1_pairs_0 : decode cX1_pairs 0 = .ok (.aload_n 0, 1) := by decide +kernel
theorem dX1_pairs_1 : decode cX1_pairs 1 = .ok (.iconst 0, 1) := by decide +kernel
theorem dX1_pairs_2 : decode cX1_pairs 2 = .ok (.putfield 34, 3) := by decide +kernel
theorem dX1_pairs_5 : decode cX1_pairs 5 = .ok (.iload_n 1, 1) := by decide +kernel
theorem dX1_pairs_6 : decode cX1_pairs 6 = .ok (.invokestatic 49, 3) := by decide +kernel
theorem dX1_pairs_9 : decode cX1_pairs 9 = .ok (.ifCond .ne 9, 3) := by decide +kernel
theorem dX1_pairs_12 : decode cX1_pairs 12 = .ok (.aload_n 0, 1) := by decide +kernel
theorem dX1_pairs_13 : decode cX1_pairs 13 = .ok (.iconst 1, 1) := by decide +kernel
theorem dX1_pairs_14 : decode cX1_pairs 14 = .ok (.invokevirtual 52, 3) := by decide +kernel
theorem dX1_pairs_17 : decode cX1_pairs 17 = .ok (.ireturn, 1) := by decide +kernel
theorem dX1_pairs_18 : decode cX1_pairs 18 = .ok (.iconst 0, 1) := by decide +kernel
theorem dX1_pairs_19 : decode cX1_pairs 19 = .ok (.istore_n 2, 1) := by decide +kernel
theorem dX1_pairs_20 : decode cX1_pairs 20 = .ok (.iconst 0, 1) := by decide +kernel
theorem dX1_pairs_21 : decode cX1_pairs 21 = .ok (.istore_n 3, 1) := by decide +kernel
theorem dX1_pairs_22 : decode cX1_pairs 22 = .ok (.iload_n 3, 1) := by decide +kernel
theorem dX1_pairs_23 : decode cX1_pairs 23 = .ok (.aload_n 0, 1) := by decide +kernel
theorem dX1_pairs_24 : decode cX1_pairs 24 = .ok (.getfield 38, 3) := by decide +kernel
theorem dX1_pairs_27 : decode cX1_pairs 27 = .ok (.if_icmp .ge 33, 3) := by decide +kernel
theorem dX1_pairs_30 : decode cX1_pairs 30 = .ok (.iload_n 2, 1) := by decide +kernel
theorem dX1_pairs_31 : decode cX1_pairs 31 = .ok (.aload_n 0, 1) := by decide +kernel
theorem dX1_pairs_32 : decode cX1_pairs 32 = .ok (.getfield 9, 3) := by decide +kernel
theorem dX1_pairs_35 : decode cX1_pairs 35 = .ok (.iload_n 3, 1) := by decide +kernel
theorem dX1_pairs_36 : decode cX1_pairs 36 = .ok (.iaload, 1) := by decide +kernel
theorem dX1_pairs_37 : decode cX1_pairs 37 = .ok (.iload_n 1, 1) := by decide +kernel
theorem dX1_pairs_38 : decode cX1_pairs 38 = .ok (.if_icmp .ne 13, 3) := by decide +kernel
theorem dX1_pairs_41 : decode cX1_pairs 41 = .ok (.aload_n 0, 1) := by decide +kernel
theorem dX1_pairs_42 : decode cX1_pairs 42 = .ok (.iload_n 3, 1) := by decide +kernel
theorem dX1_pairs_43 : decode cX1_pairs 43 = .ok (.invokevirtual 107, 3) := by decide +kernel
theorem dX1_pairs_46 : decode cX1_pairs 46 = .ok (.iconst 2, 1) := by decide +kernel
theorem dX1_pairs_47 : decode cX1_pairs 47 = .ok (.idiv, 1) := by decide +kernel
theorem dX1_pairs_48 : decode cX1_pairs 48 = .ok (.goto 4, 3) := by decide +kernel
theorem dX1_pairs_51 : decode cX1_pairs 51 = .ok (.iconst 0, 1) := by decide +kernel
theorem dX1_pairs_52 : decode cX1_pairs 52 = .ok (.iadd, 1) := by decide +kernel
theorem dX1_pairs_53 : decode cX1_pairs 53 = .ok (.istore_n 2, 1) := by decide +kernel
theorem dX1_pairs_54 : decode cX1_pairs 54 = .ok (.iinc 3 1, 3) := by decide +kernel
theorem dX1_pairs_57 : decode cX1_pairs 57 = .ok (.goto (-35), 3) := by decide +kernel
theorem dX1_pairs_60 : decode cX1_pairs 60 = .ok (.iconst 1, 1) := by decide +kernel
theorem dX1_pairs_61 : decode cX1_pairs 61 = .ok (.istore_n 3, 1) := by decide +kernel
theorem dX1_pairs_62 : decode cX1_pairs 62 = .ok (.iload_n 3, 1) := by decide +kernel
theorem dX1_pairs_63 : decode cX1_pairs 63 = .ok (.iconst 4, 1) := by decide +kernel
theorem dX1_pairs_64 : decode cX1_pairs 64 = .ok (.if_icmp .ge 26, 3) := by decide +kernel
theorem dX1_pairs_67 : decode cX1_pairs 67 = .ok (.iload_n 2, 1) := by decide +kernel
theorem dX1_pairs_68 : decode cX1_pairs 68 = .ok (.aload_n 0, 1) := by decide +kernel
theorem dX1_pairs_69 : decode cX1_pairs 69 = .ok (.iload_n 1, 1) := by decide +kernel
theorem dX1_pairs_70 : decode cX1_pairs 70 = .ok (.iload_n 3, 1) := by decide +kernel
theorem dX1_pairs_71 : decode cX1_pairs 71 = .ok (.invokevirtual 113, 3) := by decide +kernel
theorem dX1_pairs_74 : decode cX1_pairs 74 = .ok (.getstatic 116, 3) := by decide +kernel
theorem dX1_pairs_77 : decode cX1_pairs 77 = .ok (.iload_n 3, 1) := by decide +kernel
theorem dX1_pairs_78 : decode cX1_pairs 78 = .ok (.iaload, 1) := by decide +kernel
theorem dX1_pairs_79 : decode cX1_pairs 79 = .ok (.idiv, 1) := by decide +kernel
theorem dX1_pairs_80 : decode cX1_pairs 80 = .ok (.invokestatic 152, 3) := by decide +kernel
theorem dX1_pairs_83 : decode cX1_pairs 83 = .ok (.istore_n 2, 1) := by decide +kernel
theorem dX1_pairs_84 : decode cX1_pairs 84 = .ok (.iinc 3 1, 3) := by decide +kernel
theorem dX1_pairs_87 : decode cX1_pairs 87 = .ok (.goto (-25), 3) := by decide +kernel
theorem dX1_pairs_90 : decode cX1_pairs 90 = .ok (.iload_n 2, 1) := by decide +kernel
theorem dX1_pairs_91 : decode cX1_pairs 91 = .ok (.ireturn, 1) := by decide +kernel
set_option maxRecDepth 20000 in
theorem ggX1_share_X1_many : GoodIn wsX1_share wsX1_many := goodIn_r _ [7] (by decide +kernel) (by decide +kernel)
set_option maxRecDepth 20000 in
theorem gX1_share_X1_many : GoodIn wsX1_share (va_wsS RX1 59 yX1_many wsX1_many) := goodIn_app (goodIn_of _ (by decide +kernel)) ggX1_share_X1_many
theorem dX1_share_0 : decode cX1_share 0 = .ok (.aload_n 0, 1) := by decide +kernel
theorem dX1_share_1 : decode cX1_share 1 = .ok (.iconst 0, 1) := by decide +kernel
theorem dX1_share_2 : decode cX1_share 2 = .ok (.putfield 34, 3) := by decide +kernel
theorem dX1_share_5 : decode cX1_share 5 = .ok (.iconst 0, 1) := by decide +kernel
theorem dX1_share_6 : decode cX1_share 6 = .ok (.istore_n 1, 1) := by decide +kernel
theorem dX1_share_7 : decode cX1_share 7 = .ok (.iconst 0, 1) := by decide +kernel
theorem dX1_share_8 : decode cX1_share 8 = .ok (.istore_n 2, 1) := by decide +kernel
theorem dX1_share_9 : decode cX1_share 9 = .ok (.iconst 0, 1) := by decide +kernel
theorem dX1_share_10 : decode cX1_share 10 = .ok (.istore_n 3, 1) := by decide +kernel
theorem dX1_share_11 : decode cX1_share 11 = .ok (.iload_n 3, 1) := by decide +kernel
theorem dX1_share_12 : decode cX1_share 12 = .ok (.aload_n 0, 1) := by decide +kernel
theorem dX1_share_13 : decode cX1_share 13 = .ok (.getfield 38, 3) := by decide +kernel
theorem dX1_share_16 : decode cX1_share 16 = .ok (.if_icmp .ge 50, 3) := by decide +kernel
theorem dX1_share_19 : decode cX1_share 19 = .ok (.iload_n 1, 1) := by decide +kernel
theorem dX1_share_20 : decode cX1_share 20 = .ok (.aload_n 0, 1) := by decide +kernel
theorem dX1_share_21 : decode cX1_share 21 = .ok (.getfield 13, 3) := by decide +kernel
theorem dX1_share_24 : decode cX1_share 24 = .ok (.bipush 96, 2) := by decide +kernel
theorem dX1_share_26 : decode cX1_share 26 = .ok (.iload_n 3, 1) := by decide +kernel
theorem dX1_share_27 : decode cX1_share 27 = .ok (.imul, 1) := by decide +kernel
theorem dX1_share_28 : decode cX1_share 28 = .ok (.bipush 12, 2) := by decide +kernel
theorem dX1_share_30 : decode cX1_share 30 = .ok (.bipush 8, 2) := by decide +kernel
theorem dX1_share_32 : decode cX1_share 32 = .ok (.iconst 3, 1) := by decide +kernel
theorem dX1_share_33 : decode cX1_share 33 = .ok (.invokestatic 59, 3) := by decide +kernel
theorem dX1_share_36 : decode cX1_share 36 = .ok (.iadd, 1) := by decide +kernel
theorem dX1_share_37 : decode cX1_share 37 = .ok (.istore_n 1, 1) := by decide +kernel
theorem dX1_share_38 : decode cX1_share 38 = .ok (.iload_n 2, 1) := by decide +kernel
theorem dX1_share_39 : decode cX1_share 39 = .ok (.bipush 96, 2) := by decide +kernel
theorem dX1_share_41 : decode cX1_share 41 = .ok (.aload_n 0, 1) := by decide +kernel
theorem dX1_share_42 : decode cX1_share 42 = .ok (.getfield 13, 3) := by decide +kernel
theorem dX1_share_45 : decode cX1_share 45 = .ok (.bipush 96, 2) := by decide +kernel
theorem dX1_share_47 : decode cX1_share 47 = .ok (.iload_n 3, 1) := by decide +kernel
theorem dX1_share_48 : decode cX1_share 48 = .ok (.imul, 1) := by decide +kernel
theorem dX1_share_49 : decode cX1_share 49 = .ok (.bipush 12, 2) := by decide +kernel
theorem dX1_share_51 : decode cX1_share 51 = .ok (.bipush 8, 2) := by decide +kernel
theorem dX1_share_53 : decode cX1_share 53 = .ok (.iconst 2, 1) := by decide +kernel
theorem dX1_share_54 : decode cX1_share 54 = .ok (.invokestatic 59, 3) := by decide +kernel
theorem dX1_share_57 : decode cX1_share 57 = .ok (.isub, 1) := by decide +kernel
theorem dX1_share_58 : decode cX1_share 58 = .ok (.iadd, 1) := by decide +kernel
theorem dX1_share_59 : decode cX1_share 59 = .ok (.istore_n 2, 1) := by decide +kernel
theorem dX1_share_60 : decode cX1_share 60 = .ok (.iinc 3 1, 3) := by decide +kernel
theorem dX1_share_63 : decode cX1_share 63 = .ok (.goto (-52), 3) := by decide +kernel
theorem dX1_share_66 : decode cX1_share 66 = .ok (.iload_n 2, 1) := by decide +kernel
theorem dX1_share_67 : decode cX1_share 67 = .ok (.ifCond .ne 7, 3) := by decide +kernel
theorem dX1_share_70 : decode cX1_share 70 = .ok (.dconst 0, 1) := by decide +kernel
theorem dX1_share_71 : decode cX1_share 71 = .ok (.goto 8, 3) := by decide +kernel
theorem dX1_share_74 : decode cX1_share 74 = .ok (.iload_n 1, 1) := by decide +kernel
theorem dX1_share_75 : decode cX1_share 75 = .ok (.i2d, 1) := by decide +kernel
theorem dX1_share_76 : decode cX1_share 76 = .ok (.iload_n 2, 1) := by decide +kernel
theorem dX1_share_77 : decode cX1_share 77 = .ok (.i2d, 1) := by decide +kernel
theorem dX1_share_78 : decode cX1_share 78 = .ok (.ddiv, 1) := by decide +kernel
theorem dX1_share_79 : decode cX1_share 79 = .ok (.dreturn, 1) := by decide +kernel
set_option maxRecDepth 20000 in
theorem ggX1_digest_X1_counted : GoodIn wsX1_digest wsX1_counted := goodIn_r _ [13, 14, 6, 15, 7, 8, 4, 35, 36, 37, 38, 39, 40, 41, 42, 43, 44, 45, 46] (by decide +kernel) (by decide +kernel)
set_option maxRecDepth 20000 in
theorem gX1_digest_X1_counted : GoodIn wsX1_digest (wsV RX1 140 RX1 yX1_counted wsX1_counted) := goodIn_app (goodIn_of _ (by decide +kernel)) ggX1_digest_X1_counted
set_option maxRecDepth 20000 in
theorem ggX1_digest_X1_skinTold : GoodIn wsX1_digest wsX1_skinTold := goodIn_r _ [19, 20, 5, 21, 22, 23, 12, 24, 6, 25, 26, 27, 28, 35, 36, 37, 38, 39, 40, 41, 42, 43, 44, 45, 46] (by decide +kernel) (by decide +kernel)
set_option maxRecDepth 20000 in
theorem gX1_digest_X1_skinTold : GoodIn wsX1_digest (wsV RX1 73 RX1 yX1_skinTold wsX1_skinTold) := goodIn_app (goodIn_of _ (by decide +kernel)) ggX1_digest_X1_skinTold
set_option maxRecDepth 20000 in
theorem ggX1_digest_X1_pieceTold : GoodIn wsX1_digest wsX1_pieceTold := goodIn_r _ [32, 25, 33, 15, 34, 35, 36, 37, 38, 39, 40, 41, 42, 43, 44, 45, 46] (by decide +kernel) (by decide +kernel)
set_option maxRecDepth 20000 in
theorem gX1_digest_X1_pieceTold : GoodIn wsX1_digest (wsV RX1 101 RX1 yX1_pieceTold wsX1_pieceTold) := goodIn_app (goodIn_of _ (by decide +kernel)) ggX1_digest_X1_pieceTold
theorem dX1_digest_0 : decode cX1_digest 0 = .ok (.aload_n 0, 1) := by decide +kernel
theorem dX1_digest_1 : decode cX1_digest 1 = .ok (.iconst 0, 1) := by decide +kernel
theorem dX1_digest_2 : decode cX1_digest 2 = .ok (.putfield 34, 3) := by decide +kernel
theorem dX1_digest_5 : decode cX1_digest 5 = .ok (.ldc2_w 155, 3) := by decide +kernel
theorem dX1_digest_8 : decode cX1_digest 8 = .ok (.lstore_n 1, 1) := by decide +kernel
theorem dX1_digest_9 : decode cX1_digest 9 = .ok (.iconst 0, 1) := by decide +kernel
theorem dX1_digest_10 : decode cX1_digest 10 = .ok (.istore_n 3, 1) := by decide +kernel
theorem dX1_digest_11 : decode cX1_digest 11 = .ok (.iload_n 3, 1) := by decide +kernel
theorem dX1_digest_12 : decode cX1_digest 12 = .ok (.bipush 6, 2) := by decide +kernel
theorem dX1_digest_14 : decode cX1_digest 14 = .ok (.if_icmp .gt 22, 3) := by decide +kernel
theorem dX1_digest_17 : decode cX1_digest 17 = .ok (.lload_n 1, 1) := by decide +kernel
theorem dX1_digest_18 : decode cX1_digest 18 = .ok (.ldc2_w 157, 3) := by decide +kernel
theorem dX1_digest_21 : decode cX1_digest 21 = .ok (.lmul, 1) := by decide +kernel
theorem dX1_digest_22 : decode cX1_digest 22 = .ok (.aload_n 0, 1) := by decide +kernel
theorem dX1_digest_23 : decode cX1_digest 23 = .ok (.iload_n 3, 1) := by decide +kernel
theorem dX1_digest_24 : decode cX1_digest 24 = .ok (.invokevirtual 140, 3) := by decide +kernel
theorem dX1_digest_27 : decode cX1_digest 27 = .ok (.i2l, 1) := by decide +kernel
theorem dX1_digest_28 : decode cX1_digest 28 = .ok (.ladd, 1) := by decide +kernel
theorem dX1_digest_29 : decode cX1_digest 29 = .ok (.lstore_n 1, 1) := by decide +kernel
theorem dX1_digest_30 : decode cX1_digest 30 = .ok (.iinc 3 1, 3) := by decide +kernel
theorem dX1_digest_33 : decode cX1_digest 33 = .ok (.goto (-22), 3) := by decide +kernel
theorem dX1_digest_36 : decode cX1_digest 36 = .ok (.iconst 0, 1) := by decide +kernel
theorem dX1_digest_37 : decode cX1_digest 37 = .ok (.istore_n 3, 1) := by decide +kernel
theorem dX1_digest_38 : decode cX1_digest 38 = .ok (.iload_n 3, 1) := by decide +kernel
theorem dX1_digest_39 : decode cX1_digest 39 = .ok (.aload_n 0, 1) := by decide +kernel
theorem dX1_digest_40 : decode cX1_digest 40 = .ok (.getfield 38, 3) := by decide +kernel
theorem dX1_digest_43 : decode cX1_digest 43 = .ok (.if_icmp .ge 75, 3) := by decide +kernel
theorem dX1_digest_46 : decode cX1_digest 46 = .ok (.iconst 0, 1) := by decide +kernel
theorem dX1_digest_47 : decode cX1_digest 47 = .ok (.istore 4, 2) := by decide +kernel
theorem dX1_digest_49 : decode cX1_digest 49 = .ok (.iload 4, 2) := by decide +kernel
theorem dX1_digest_51 : decode cX1_digest 51 = .ok (.iconst 5, 1) := by decide +kernel
theorem dX1_digest_52 : decode cX1_digest 52 = .ok (.if_icmp .gt 24, 3) := by decide +kernel
theorem dX1_digest_55 : decode cX1_digest 55 = .ok (.lload_n 1, 1) := by decide +kernel
theorem dX1_digest_56 : decode cX1_digest 56 = .ok (.ldc2_w 157, 3) := by decide +kernel
theorem dX1_digest_59 : decode cX1_digest 59 = .ok (.lmul, 1) := by decide +kernel
theorem dX1_digest_60 : decode cX1_digest 60 = .ok (.aload_n 0, 1) := by decide +kernel
theorem dX1_digest_61 : decode cX1_digest 61 = .ok (.iload_n 3, 1) := by decide +kernel
theorem dX1_digest_62 : decode cX1_digest 62 = .ok (.iload 4, 2) := by decide +kernel
theorem dX1_digest_64 : decode cX1_digest 64 = .ok (.invokevirtual 73, 3) := by decide +kernel
theorem dX1_digest_67 : decode cX1_digest 67 = .ok (.i2l, 1) := by decide +kernel
theorem dX1_digest_68 : decode cX1_digest 68 = .ok (.ladd, 1) := by decide +kernel
theorem dX1_digest_69 : decode cX1_digest 69 = .ok (.lstore_n 1, 1) := by decide +kernel
theorem dX1_digest_70 : decode cX1_digest 70 = .ok (.iinc 4 1, 3) := by decide +kernel
theorem dX1_digest_73 : decode cX1_digest 73 = .ok (.goto (-24), 3) := by decide +kernel
theorem dX1_digest_76 : decode cX1_digest 76 = .ok (.iconst 0, 1) := by decide +kernel
theorem dX1_digest_77 : decode cX1_digest 77 = .ok (.istore 4, 2) := by decide +kernel
theorem dX1_digest_79 : decode cX1_digest 79 = .ok (.iload 4, 2) := by decide +kernel
theorem dX1_digest_81 : decode cX1_digest 81 = .ok (.bipush 96, 2) := by decide +kernel
theorem dX1_digest_83 : decode cX1_digest 83 = .ok (.if_icmp .ge 29, 3) := by decide +kernel
theorem dX1_digest_86 : decode cX1_digest 86 = .ok (.lload_n 1, 1) := by decide +kernel
theorem dX1_digest_87 : decode cX1_digest 87 = .ok (.ldc2_w 157, 3) := by decide +kernel
theorem dX1_digest_90 : decode cX1_digest 90 = .ok (.lmul, 1) := by decide +kernel
theorem dX1_digest_91 : decode cX1_digest 91 = .ok (.aload_n 0, 1) := by decide +kernel
theorem dX1_digest_92 : decode cX1_digest 92 = .ok (.getfield 13, 3) := by decide +kernel
theorem dX1_digest_95 : decode cX1_digest 95 = .ok (.bipush 96, 2) := by decide +kernel
theorem dX1_digest_97 : decode cX1_digest 97 = .ok (.iload_n 3, 1) := by decide +kernel
theorem dX1_digest_98 : decode cX1_digest 98 = .ok (.imul, 1) := by decide +kernel
theorem dX1_digest_99 : decode cX1_digest 99 = .ok (.iload 4, 2) := by decide +kernel
theorem dX1_digest_101 : decode cX1_digest 101 = .ok (.iadd, 1) := by decide +kernel
theorem dX1_digest_102 : decode cX1_digest 102 = .ok (.iaload, 1) := by decide +kernel
theorem dX1_digest_103 : decode cX1_digest 103 = .ok (.i2l, 1) := by decide +kernel
theorem dX1_digest_104 : decode cX1_digest 104 = .ok (.ladd, 1) := by decide +kernel
theorem dX1_digest_105 : decode cX1_digest 105 = .ok (.lstore_n 1, 1) := by decide +kernel
theorem dX1_digest_106 : decode cX1_digest 106 = .ok (.iinc 4 1, 3) := by decide +kernel
theorem dX1_digest_109 : decode cX1_digest 109 = .ok (.goto (-30), 3) := by decide +kernel
theorem dX1_digest_112 : decode cX1_digest 112 = .ok (.iinc 3 1, 3) := by decide +kernel
theorem dX1_digest_115 : decode cX1_digest 115 = .ok (.goto (-77), 3) := by decide +kernel
theorem dX1_digest_118 : decode cX1_digest 118 = .ok (.iconst 0, 1) := by decide +kernel
theorem dX1_digest_119 : decode cX1_digest 119 = .ok (.istore_n 3, 1) := by decide +kernel
theorem dX1_digest_120 : decode cX1_digest 120 = .ok (.iload_n 3, 1) := by decide +kernel
theorem dX1_digest_121 : decode cX1_digest 121 = .ok (.aload_n 0, 1) := by decide +kernel
theorem dX1_digest_122 : decode cX1_digest 122 = .ok (.getfield 67, 3) := by decide +kernel
theorem dX1_digest_125 : decode cX1_digest 125 = .ok (.if_icmp .ge 39, 3) := by decide +kernel
theorem dX1_digest_128 : decode cX1_digest 128 = .ok (.iconst 0, 1) := by decide +kernel
theorem dX1_digest_129 : decode cX1_digest 129 = .ok (.istore 4, 2) := by decide +kernel
theorem dX1_digest_131 : decode cX1_digest 131 = .ok (.iload 4, 2) := by decide +kernel
theorem dX1_digest_133 : decode cX1_digest 133 = .ok (.iconst 3, 1) := by decide +kernel
theorem dX1_digest_134 : decode cX1_digest 134 = .ok (.if_icmp .gt 24, 3) := by decide +kernel
theorem dX1_digest_137 : decode cX1_digest 137 = .ok (.lload_n 1, 1) := by decide +kernel
theorem dX1_digest_138 : decode cX1_digest 138 = .ok (.ldc2_w 157, 3) := by decide +kernel
theorem dX1_digest_141 : decode cX1_digest 141 = .ok (.lmul, 1) := by decide +kernel
theorem dX1_digest_142 : decode cX1_digest 142 = .ok (.aload_n 0, 1) := by decide +kernel
theorem dX1_digest_143 : decode cX1_digest 143 = .ok (.iload_n 3, 1) := by decide +kernel
theorem dX1_digest_144 : decode cX1_digest 144 = .ok (.iload 4, 2) := by decide +kernel
theorem dX1_digest_146 : decode cX1_digest 146 = .ok (.invokevirtual 101, 3) := by decide +kernel
theorem dX1_digest_149 : decode cX1_digest 149 = .ok (.i2l, 1) := by decide +kernel
theorem dX1_digest_150 : decode cX1_digest 150 = .ok (.ladd, 1) := by decide +kernel
theorem dX1_digest_151 : decode cX1_digest 151 = .ok (.lstore_n 1, 1) := by decide +kernel
theorem dX1_digest_152 : decode cX1_digest 152 = .ok (.iinc 4 1, 3) := by decide +kernel
theorem dX1_digest_155 : decode cX1_digest 155 = .ok (.goto (-24), 3) := by decide +kernel
theorem dX1_digest_158 : decode cX1_digest 158 = .ok (.iinc 3 1, 3) := by decide +kernel
theorem dX1_digest_161 : decode cX1_digest 161 = .ok (.goto (-41), 3) := by decide +kernel
theorem dX1_digest_164 : decode cX1_digest 164 = .ok (.iconst 0, 1) := by decide +kernel
theorem dX1_digest_165 : decode cX1_digest 165 = .ok (.istore_n 3, 1) := by decide +kernel
theorem dX1_digest_166 : decode cX1_digest 166 = .ok (.iload_n 3, 1) := by decide +kernel
theorem dX1_digest_167 : decode cX1_digest 167 = .ok (.iconst 5, 1) := by decide +kernel
theorem dX1_digest_168 : decode cX1_digest 168 = .ok (.aload_n 0, 1) := by decide +kernel
theorem dX1_digest_169 : decode cX1_digest 169 = .ok (.getfield 119, 3) := by decide +kernel
theorem dX1_digest_172 : decode cX1_digest 172 = .ok (.imul, 1) := by decide +kernel
theorem dX1_digest_173 : decode cX1_digest 173 = .ok (.if_icmp .ge 23, 3) := by decide +kernel
theorem dX1_digest_176 : decode cX1_digest 176 = .ok (.lload_n 1, 1) := by decide +kernel
theorem dX1_digest_177 : decode cX1_digest 177 = .ok (.ldc2_w 157, 3) := by decide +kernel
theorem dX1_digest_180 : decode cX1_digest 180 = .ok (.lmul, 1) := by decide +kernel
theorem dX1_digest_181 : decode cX1_digest 181 = .ok (.aload_n 0, 1) := by decide +kernel
theorem dX1_digest_182 : decode cX1_digest 182 = .ok (.getfield 28, 3) := by decide +kernel
theorem dX1_digest_185 : decode cX1_digest 185 = .ok (.iload_n 3, 1) := by decide +kernel
theorem dX1_digest_186 : decode cX1_digest 186 = .ok (.iaload, 1) := by decide +kernel
theorem dX1_digest_187 : decode cX1_digest 187 = .ok (.i2l, 1) := by decide +kernel
theorem dX1_digest_188 : decode cX1_digest 188 = .ok (.ladd, 1) := by decide +kernel
theorem dX1_digest_189 : decode cX1_digest 189 = .ok (.lstore_n 1, 1) := by decide +kernel
theorem dX1_digest_190 : decode cX1_digest 190 = .ok (.iinc 3 1, 3) := by decide +kernel
theorem dX1_digest_193 : decode cX1_digest 193 = .ok (.goto (-27), 3) := by decide +kernel
theorem dX1_digest_196 : decode cX1_digest 196 = .ok (.lload_n 1, 1) := by decide +kernel
theorem dX1_digest_197 : decode cX1_digest 197 = .ok (.lreturn, 1) := by decide +kernel
end
section
/-! rows over natural numbers: what the kit's rows say of nI, and booleans as ints -/
def bI (b : Bool) : Int32 := if b then 1 else 0
theorem bI_t : bI true = 1 := rfl
theorem bI_f : bI false = 0 := rfl
theorem bI_0 {b : Bool} : bI b = 0 ↔ b = false := by cases b <;> decide
theorem bI_1 {b : Bool} : bI b = 1 ↔ b = true := by cases b <;> decide
section NV
variable {p : Program} {l : Launch} {e : Env} {R : Room} {s : State} {m : MethodId} {args : Array Value} {below : List Frame} {meth : Method} {c : Code} {H : Heap} {locs : List Loc} {cells slots : Nat} {Q : State → Prop}
variable {cc : ByteArray} {pc : Nat} {ls : Array Slot} {rest : List Value} {D : va_G} {cl : List vw_C} {A : Nat → Prop} {a : Nat} {tys : List (ClassId × FieldType)} {ws : va_W} {H0 : Heap}
theorem nv_iadd (hx : p.tables.exec = Jvm.exec) (hb : c.code = cc) {i j : Nat} (hdg : decode cc pc = .ok (.iadd, 1)) (k : W p l e R s m args below meth c H locs cells slots Q (F0 m (pc + 1) ls (.int (nI (i + j)) :: rest))) : W p l e R s m args below meth c H locs cells slots Q (F0 m pc ls (.int (nI j) :: .int (nI i) :: rest)) := lv_iadd hx hb hdg (by rw [nI_add]; exact k)
theorem nv_isub (hx : p.tables.exec = Jvm.exec) (hb : c.code = cc) {i j : Nat} (h : j ≤ i) (hdg : decode cc pc = .ok (.isub, 1)) (k : W p l e R s m args below meth c H locs cells slots Q (F0 m (pc + 1) ls (.int (nI (i - j)) :: rest))) : W p l e R s m args below meth c H locs cells slots Q (F0 m pc ls (.int (nI j) :: .int (nI i) :: rest)) := lv_isub hx hb hdg (by rw [pk_sub h]; exact k)
theorem nv_imul (hx : p.tables.exec = Jvm.exec) (hb : c.code = cc) {i j : Nat} (hdg : decode cc pc = .ok (.imul, 1)) (k : W p l e R s m args below meth c H locs cells slots Q (F0 m (pc + 1) ls (.int (nI (i * j)) :: rest))) : W p l e R s m args below meth c H locs cells slots Q (F0 m pc ls (.int (nI j) :: .int (nI i) :: rest)) := lv_imul hx hb hdg (by rw [pk_mul]; exact k)
theorem nv_idiv (hx : p.tables.exec = Jvm.exec) (hb : c.code = cc) {i j : Nat} (hi : i < 2 ^ 31) (h0 : 0 < j) (hj : j < 2 ^ 31) (hdg : decode cc pc = .ok (.idiv, 1)) (k : W p l e R s m args below meth c H locs cells slots Q (F0 m (pc + 1) ls (.int (nI (i / j)) :: rest))) : W p l e R s m args below meth c H locs cells slots Q (F0 m pc ls (.int (nI j) :: .int (nI i) :: rest)) := lv_idiv hx hb hdg (nI_ne0 h0 hj) (by rw [pk_div hi h0 hj]; exact k)
theorem nv_irem (hx : p.tables.exec = Jvm.exec) (hb : c.code = cc) {i j : Nat} (hi : i < 2 ^ 31) (h0 : 0 < j) (hj : j < 2 ^ 31) (hdg : decode cc pc = .ok (.irem, 1)) (k : W p l e R s m args below meth c H locs cells slots Q (F0 m (pc + 1) ls (.int (nI (i % j)) :: rest))) : W p l e R s m args below meth c H locs cells slots Q (F0 m pc ls (.int (nI j) :: .int (nI i) :: rest)) := lv_irem hx hb hdg (nI_ne0 h0 hj) (by rw [pk_rem hi h0 hj]; exact k)
theorem nv_icmp_eq (hx : p.tables.exec = Jvm.exec) (hb : c.code = cc) {i j : Nat} {off : Int} {tgt : Nat} (hi : i < 2 ^ 31) (hj : j < 2 ^ 31) (hdg : decode cc pc = .ok (.if_icmp .eq off, 3)) (ht : (pc : Int) + off = (tgt : Int)) (kt : i = j → W p l e R s m args below meth c H locs cells slots Q (F0 m tgt ls rest)) (kf : i ≠ j → W p l e R s m args below meth c H locs cells slots Q (F0 m (pc + 3) ls rest)) : W p l e R s m args below meth c H locs cells slots Q (F0 m pc ls (.int (nI j) :: .int (nI i) :: rest)) := lv_icmp_eq hx hb hdg ht (fun h => kt ((nI_eq hi hj).mp h)) (fun h => kf (fun q => h ((nI_eq hi hj).mpr q)))
theorem nv_icmp_ne (hx : p.tables.exec = Jvm.exec) (hb : c.code = cc) {i j : Nat} {off : Int} {tgt : Nat} (hi : i < 2 ^ 31) (hj : j < 2 ^ 31) (hdg : decode cc pc = .ok (.if_icmp .ne off, 3)) (ht : (pc : Int) + off = (tgt : Int)) (kt : i ≠ j → W p l e R s m args below meth c H locs cells slots Q (F0 m tgt ls rest)) (kf : i = j → W p l e R s m args below meth c H locs cells slots Q (F0 m (pc + 3) ls rest)) : W p l e R s m args below meth c H locs cells slots Q (F0 m pc ls (.int (nI j) :: .int (nI i) :: rest)) := lv_icmp_ne hx hb hdg ht (fun h => kt (fun q => h ((nI_eq hi hj).mpr q))) (fun h => kf ((nI_eq hi hj).mp h))
theorem nv_icmp_lt (hx : p.tables.exec = Jvm.exec) (hb : c.code = cc) {i j : Nat} {off : Int} {tgt : Nat} (hi : i < 2 ^ 31) (hj : j < 2 ^ 31) (hdg : decode cc pc = .ok (.if_icmp .lt off, 3)) (ht : (pc : Int) + off = (tgt : Int)) (kt : i < j → W p l e R s m args below meth c H locs cells slots Q (F0 m tgt ls rest)) (kf : j ≤ i → W p l e R s m args below meth c H locs cells slots Q (F0 m (pc + 3) ls rest)) : W p l e R s m args below meth c H locs cells slots Q (F0 m pc ls (.int (nI j) :: .int (nI i) :: rest)) := lv_icmp_lt hx hb hdg ht (fun h => kt ((nI_ltI hi hj).mp h)) (fun h => kf (Nat.not_lt.mp fun q => h ((nI_ltI hi hj).mpr q)))
theorem nv_icmp_ge (hx : p.tables.exec = Jvm.exec) (hb : c.code = cc) {i j : Nat} {off : Int} {tgt : Nat} (hi : i < 2 ^ 31) (hj : j < 2 ^ 31) (hdg : decode cc pc = .ok (.if_icmp .ge off, 3)) (ht : (pc : Int) + off = (tgt : Int)) (kt : j ≤ i → W p l e R s m args below meth c H locs cells slots Q (F0 m tgt ls rest)) (kf : i < j → W p l e R s m args below meth c H locs cells slots Q (F0 m (pc + 3) ls rest)) : W p l e R s m args below meth c H locs cells slots Q (F0 m pc ls (.int (nI j) :: .int (nI i) :: rest)) := lv_icmp_ge hx hb hdg ht (fun h => kt ((nI_leI hj hi).mp h)) (fun h => kf (Nat.not_le.mp fun q => h ((nI_leI hj hi).mpr q)))
theorem nv_icmp_gt (hx : p.tables.exec = Jvm.exec) (hb : c.code = cc) {i j : Nat} {off : Int} {tgt : Nat} (hi : i < 2 ^ 31) (hj : j < 2 ^ 31) (hdg : decode cc pc = .ok (.if_icmp .gt off, 3)) (ht : (pc : Int) + off = (tgt : Int)) (kt : j < i → W p l e R s m args below meth c H locs cells slots Q (F0 m tgt ls rest)) (kf : i ≤ j → W p l e R s m args below meth c H locs cells slots Q (F0 m (pc + 3) ls rest)) : W p l e R s m args below meth c H locs cells slots Q (F0 m pc ls (.int (nI j) :: .int (nI i) :: rest)) := lv_icmp_gt hx hb hdg ht (fun h => kt ((nI_ltI hj hi).mp h)) (fun h => kf (Nat.not_lt.mp fun q => h ((nI_ltI hj hi).mpr q)))
theorem nv_icmp_le (hx : p.tables.exec = Jvm.exec) (hb : c.code = cc) {i j : Nat} {off : Int} {tgt : Nat} (hi : i < 2 ^ 31) (hj : j < 2 ^ 31) (hdg : decode cc pc = .ok (.if_icmp .le off, 3)) (ht : (pc : Int) + off = (tgt : Int)) (kt : i ≤ j → W p l e R s m args below meth c H locs cells slots Q (F0 m tgt ls rest)) (kf : j < i → W p l e R s m args below meth c H locs cells slots Q (F0 m (pc + 3) ls rest)) : W p l e R s m args below meth c H locs cells slots Q (F0 m pc ls (.int (nI j) :: .int (nI i) :: rest)) := lv_icmp_le hx hb hdg ht (fun h => kt ((nI_leI hi hj).mp h)) (fun h => kf (Nat.not_le.mp fun q => h ((nI_leI hi hj).mpr q)))
theorem nI0 : nI 0 = 0 := rfl
theorem nv_if_eq (hx : p.tables.exec = Jvm.exec) (hb : c.code = cc) {i : Nat} {off : Int} {tgt : Nat} (hi : i < 2 ^ 31) (hdg : decode cc pc = .ok (.ifCond .eq off, 3)) (ht : (pc : Int) + off = (tgt : Int)) (kt : i = 0 → W p l e R s m args below meth c H locs cells slots Q (F0 m tgt ls rest)) (kf : 0 < i → W p l e R s m args below meth c H locs cells slots Q (F0 m (pc + 3) ls rest)) : W p l e R s m args below meth c H locs cells slots Q (F0 m pc ls (.int (nI i) :: rest)) := lv_if_eq hx hb hdg ht (fun h => kt ((nI_eq (b := 0) hi (by decide)).mp h)) (fun h => kf (Nat.pos_of_ne_zero fun q => h (by rw [q]; rfl)))
theorem nv_if_ne (hx : p.tables.exec = Jvm.exec) (hb : c.code = cc) {i : Nat} {off : Int} {tgt : Nat} (hi : i < 2 ^ 31) (hdg : decode cc pc = .ok (.ifCond .ne off, 3)) (ht : (pc : Int) + off = (tgt : Int)) (kt : 0 < i → W p l e R s m args below meth c H locs cells slots Q (F0 m tgt ls rest)) (kf : i = 0 → W p l e R s m args below meth c H locs cells slots Q (F0 m (pc + 3) ls rest)) : W p l e R s m args below meth c H locs cells slots Q (F0 m pc ls (.int (nI i) :: rest)) := lv_if_ne hx hb hdg ht (fun h => kt (Nat.pos_of_ne_zero fun q => h (by rw [q]; rfl))) (fun h => kf ((nI_eq (b := 0) hi (by decide)).mp h))
theorem nv_if_ge (hx : p.tables.exec = Jvm.exec) (hb : c.code = cc) {i : Nat} {off : Int} {tgt : Nat} (hi : i < 2 ^ 31) (hdg : decode cc pc = .ok (.ifCond .ge off, 3)) (ht : (pc : Int) + off = (tgt : Int)) (kt : W p l e R s m args below meth c H locs cells slots Q (F0 m tgt ls rest)) : W p l e R s m args below meth c H locs cells slots Q (F0 m pc ls (.int (nI i) :: rest)) := lv_if_ge hx hb hdg ht (fun _ => kt) (fun h => absurd (nI_pos' hi) h)
theorem nv_if_lt (hx : p.tables.exec = Jvm.exec) (hb : c.code = cc) {i : Nat} {off : Int} {tgt : Nat} (hi : i < 2 ^ 31) (hdg : decode cc pc = .ok (.ifCond .lt off, 3)) (ht : (pc : Int) + off = (tgt : Int)) (kf : W p l e R s m args below meth c H locs cells slots Q (F0 m (pc + 3) ls rest)) : W p l e R s m args below meth c H locs cells slots Q (F0 m pc ls (.int (nI i) :: rest)) := lv_if_lt hx hb hdg ht (fun h => absurd h (nI_pos hi)) (fun _ => kf)
theorem nv_if_le (hx : p.tables.exec = Jvm.exec) (hb : c.code = cc) {i : Nat} {off : Int} {tgt : Nat} (hi : i < 2 ^ 31) (hdg : decode cc pc = .ok (.ifCond .le off, 3)) (ht : (pc : Int) + off = (tgt : Int)) (kt : i = 0 → W p l e R s m args below meth c H locs cells slots Q (F0 m tgt ls rest)) (kf : 0 < i → W p l e R s m args below meth c H locs cells slots Q (F0 m (pc + 3) ls rest)) : W p l e R s m args below meth c H locs cells slots Q (F0 m pc ls (.int (nI i) :: rest)) := lv_if_le hx hb hdg ht (fun h => kt (by rcases Nat.eq_zero_or_pos i with q | q; exact q; exact absurd h (nI_nle q hi))) (fun h => kf (Nat.pos_of_ne_zero fun q => h (by rw [q]; decide)))
theorem nv_if_gt (hx : p.tables.exec = Jvm.exec) (hb : c.code = cc) {i : Nat} {off : Int} {tgt : Nat} (hi : i < 2 ^ 31) (hdg : decode cc pc = .ok (.ifCond .gt off, 3)) (ht : (pc : Int) + off = (tgt : Int)) (kt : 0 < i → W p l e R s m args below meth c H locs cells slots Q (F0 m tgt ls rest)) (kf : i = 0 → W p l e R s m args below meth c H locs cells slots Q (F0 m (pc + 3) ls rest)) : W p l e R s m args below meth c H locs cells slots Q (F0 m pc ls (.int (nI i) :: rest)) := lv_if_gt hx hb hdg ht (fun h => kt (Nat.pos_of_ne_zero fun q => by rw [q] at h; exact absurd h (by decide))) (fun h => kf (by rcases Nat.eq_zero_or_pos i with q | q; exact q; exact absurd (show (0 : Int32) < nI i from nI_lt (a := 0) q hi) h))
theorem nb_if_eq (hx : p.tables.exec = Jvm.exec) (hb : c.code = cc) {v : Bool} {off : Int} {tgt : Nat} (hdg : decode cc pc = .ok (.ifCond .eq off, 3)) (ht : (pc : Int) + off = (tgt : Int)) (kt : v = false → W p l e R s m args below meth c H locs cells slots Q (F0 m tgt ls rest)) (kf : v = true → W p l e R s m args below meth c H locs cells slots Q (F0 m (pc + 3) ls rest)) : W p l e R s m args below meth c H locs cells slots Q (F0 m pc ls (.int (bI v) :: rest)) := lv_if_eq hx hb hdg ht (fun h => kt (bI_0.mp h)) (fun h => kf (by cases v; exact absurd rfl h; rfl))
theorem nb_if_ne (hx : p.tables.exec = Jvm.exec) (hb : c.code = cc) {v : Bool} {off : Int} {tgt : Nat} (hdg : decode cc pc = .ok (.ifCond .ne off, 3)) (ht : (pc : Int) + off = (tgt : Int)) (kt : v = true → W p l e R s m args below meth c H locs cells slots Q (F0 m tgt ls rest)) (kf : v = false → W p l e R s m args below meth c H locs cells slots Q (F0 m (pc + 3) ls rest)) : W p l e R s m args below meth c H locs cells slots Q (F0 m pc ls (.int (bI v) :: rest)) := lv_if_ne hx hb hdg ht (fun h => kt (by cases v; exact absurd rfl h; rfl)) (fun h => kf (bI_0.mp h))
theorem nv_iald (hx : p.tables.exec = Jvm.exec) (hb : c.code = cc) (hK : va_K D cl tys s) (hP : va_P D cl ws H) (q0 t0 : Nat) {cA : ClassId} {n : Nat} {f : Nat → Int32} (ha : ws[q0]? = some (a, .inl (cA, n, .inl f))) (ht : tys[t0]? = some (cA, .int)) {i : Nat} (hi : i < n) (hn : n < 2 ^ 31) (hdg : decode cc pc = .ok (.iaload, 1)) (kk : W p l e R s m args below meth c H locs cells slots Q (F0 m (pc + 1) ls (.int (f i) :: rest))) : W p l e R s m args below meth c H locs cells slots Q (F0 m pc ls (.int (nI i) :: .ref a :: rest)) := va_iald hx hb hK hP q0 t0 ha ht (vp_in_nI hi hn) hdg (by rw [nI_clamp (Nat.lt_trans hi hn)]; exact kk)
theorem nv_iast (hx : p.tables.exec = Jvm.exec) (hb : c.code = cc) (hK : va_K D cl tys s) (hP : va_P D cl ws H) (hD : va_D A ws) (hS : va_S A H0 H locs) (q0 t0 : Nat) {cA : ClassId} {n : Nat} {f : Nat → Int32} (ha : ws[q0]? = some (a, .inl (cA, n, .inl f))) (ht : tys[t0]? = some (cA, .int)) {i : Nat} {x : Int32} (hi : i < n) (hn : n < 2 ^ 31) (hdg : decode cc pc = .ok (.iastore, 1))
    (kk : ∀ (H1 : Heap) (locs1 : List Loc), va_P D cl (ws.set q0 (a, .inl (cA, n, .inl (upd f i x)))) H1 → va_D A (ws.set q0 (a, .inl (cA, n, .inl (upd f i x)))) → va_S A H0 H1 locs1 → W p l e R s m args below meth c H1 locs1 cells slots Q (F0 m (pc + 1) ls rest)) : W p l e R s m args below meth c H locs cells slots Q (F0 m pc ls (.int x :: .int (nI i) :: .ref a :: rest)) := va_iast hx hb hK hP hD hS q0 t0 ha ht (vp_in_nI hi hn) hdg (by rw [nI_clamp (Nat.lt_trans hi hn)]; exact kk)
end NV
end
section
/-! the worlds: the class's object with its arrays (wG), the reference's (wM); addresses ad 0, ad 1 ..; contents F 1, F 2 .. -/
def AW (o : Nat × va_E) (ad : Nat → Nat) (E : Nat → va_E) (N : Nat) : va_W := o :: (List.range N).map (fun i => (ad (i + 1), E (i + 1)))
theorem AW_get {o : Nat × va_E} {ad : Nat → Nat} {E : Nat → va_E} {N k : Nat} (h : 1 ≤ k) (hk : k ≤ N) : (AW o ad E N)[k]? = some (ad k, E k) := by
  obtain ⟨j, rfl⟩ : ∃ j, k = j + 1 := ⟨k - 1, by omega⟩
  show ((List.range N).map (fun i => (ad (i + 1), E (i + 1))))[j]? = _
  rw [List.getElem?_map, List.getElem?_range (by omega)]
  rfl
theorem AW_set {o : Nat × va_E} {ad : Nat → Nat} {E : Nat → va_E} {N k : Nat} (h : 1 ≤ k) (hk : k ≤ N) (e : va_E) : (AW o ad E N).set k (ad k, e) = AW o ad (va_up E k e) N := by
  obtain ⟨j, rfl⟩ : ∃ j, k = j + 1 := ⟨k - 1, by omega⟩
  show o :: ((List.range N).map (fun i => (ad (i + 1), E (i + 1)))).set j (ad (j + 1), e) = o :: _
  congr 1
  apply List.ext_getElem?
  intro i
  rw [List.getElem?_set, List.getElem?_map, List.length_map, List.length_range, List.getElem?_map]
  by_cases hi : i < N
  · rw [List.getElem?_range hi]
    by_cases hij : j = i
    · subst hij
      simp [hi, va_up]
    · have h2 : ¬ i = j := fun q => hij q.symm
      simp [hij, va_up, h2]
  · rw [List.getElem?_eq_none (by simpa using Nat.not_lt.mp hi)]
    have h2 : ¬ j = i := by omega
    simp [h2]
theorem AW_congr {o : Nat × va_E} {ad : Nat → Nat} {E E' : Nat → va_E} {N : Nat} (h : ∀ k, E k = E' k) : AW o ad E N = AW o ad E' N := by
  rw [show E = E' from funext h]
theorem AW_D {A : Nat → Prop} {o : Nat × va_E} {ad : Nat → Nat} {E : Nat → va_E} {N : Nat} (ho : o.1 = ad 0) (hinj : ∀ i j, i ≤ N → j ≤ N → ad i = ad j → i = j) (hA : ∀ i, i ≤ N → A (ad i)) : va_D A (AW o ad E N) := by
  have key : ∀ (i : Nat) (q : Nat × va_E), (AW o ad E N)[i]? = some q → i ≤ N ∧ q.1 = ad i := by
    intro i q h
    match i with
    | 0 => cases h; exact ⟨Nat.zero_le _, ho⟩
    | i + 1 =>
      have hlt : i + 1 ≤ N := by
        have h2 := (List.getElem?_eq_some_iff.mp h).1
        simp [AW] at h2
        omega
      rw [AW_get (Nat.succ_le_succ (Nat.zero_le i)) hlt] at h
      cases h
      exact ⟨hlt, rfl⟩
  refine ⟨fun i j p q hi hj e => ?_, fun k q hk => ?_⟩
  · obtain ⟨a1, b1⟩ := key i p hi
    obtain ⟨a2, b2⟩ := key j q hj
    exact hinj i j a1 a2 (by rw [← b1, ← b2]; exact e)
  · obtain ⟨a1, b1⟩ := key k q hk
    rw [b1]
    exact hA k a1
/-- the addresses of a world of N arrays -/
def inA (ad : Nat → Nat) (N : Nat) : Nat → Prop := fun q => ∃ i, i ≤ N ∧ q = ad i
def inj (ad : Nat → Nat) (N : Nat) : Prop := ∀ i j, i ≤ N → j ≤ N → ad i = ad j → i = j
-- the class
def gLn (k : Nat) : Nat := if k ≤ 2 then 10 else if k ≤ 7 then 150 else if k ≤ 12 then 20 else 96
def gCl (cI cZ : ClassId) (k : Nat) : ClassId := if k = 12 then cZ else cI
def gE (cI cZ cO : ClassId) (ad : Nat → Nat) (F : Nat → Nat → Int32) (k : Nat) : va_E := if k = 3 then .inl (cO, 10, .inr (.inr (.inr (.inr (fun j => if j < 10 then some (ad (14 + j)) else none))))) else .inl (gCl cI cZ k, gLn k, .inl (F k))
def gO (ad : Nat → Nat) (n np nq : Nat) : Nat × va_E := (ad 0, .inr (0, [.int (nI n), .ref (ad 1), .ref (ad 2), .ref (ad 3), .int (nI np), .ref (ad 4), .ref (ad 5), .ref (ad 6), .ref (ad 7), .int (nI nq), .ref (ad 8), .ref (ad 9), .ref (ad 10), .ref (ad 11), .ref (ad 12), .ref (ad 13)]))
def wG (cI cZ cO : ClassId) (ad : Nat → Nat) (n np nq : Nat) (F : Nat → Nat → Int32) : va_W := AW (gO ad n np nq) ad (gE cI cZ cO ad F) 23
abbrev gT (cI cZ cO : ClassId) : List (ClassId × FieldType) := [(cI, .int), (cZ, .boolean), (cO, .array .int)]
section GW
variable {cI cZ cO : ClassId} {ad : Nat → Nat} {n np nq : Nat} {F : Nat → Nat → Int32}
theorem g_at0 : (wG cI cZ cO ad n np nq F)[0]? = some (gO ad n np nq) := rfl
theorem g_at3 : (wG cI cZ cO ad n np nq F)[3]? = some (ad 3, .inl (cO, 10, .inr (.inr (.inr (.inr (fun j => if j < 10 then some (ad (14 + j)) else none)))))) := AW_get (by decide) (by decide)
theorem gE_up {k : Nat} (h3 : k ≠ 3) (v : Nat → Int32) : ∀ j, va_up (gE cI cZ cO ad F) k (.inl (gCl cI cZ k, gLn k, .inl v)) j = gE cI cZ cO ad (va_up F k v) j := by
  intro j
  by_cases hj : j = k
  · subst hj
    simp [va_up, gE, h3]
  · simp [va_up, gE, hj]
theorem g_setk {k : Nat} (h1 : 1 ≤ k) (hk : k ≤ 23) (h3 : k ≠ 3) (v : Nat → Int32) : (wG cI cZ cO ad n np nq F).set k (ad k, .inl (gCl cI cZ k, gLn k, .inl v)) = wG cI cZ cO ad n np nq (va_up F k v) := by
  unfold wG
  rw [AW_set h1 hk]
  exact AW_congr (gE_up h3 v)
theorem g_at1 : (wG cI cZ cO ad n np nq F)[1]? = some (ad 1, .inl (cI, 10, .inl (F 1))) := AW_get (by decide) (by decide)
theorem g_set1 (v : Nat → Int32) : (wG cI cZ cO ad n np nq F).set 1 (ad 1, .inl (cI, 10, .inl v)) = wG cI cZ cO ad n np nq (va_up F 1 v) := g_setk (k := 1) (by decide) (by decide) (by decide) v
theorem g_at2 : (wG cI cZ cO ad n np nq F)[2]? = some (ad 2, .inl (cI, 10, .inl (F 2))) := AW_get (by decide) (by decide)
theorem g_set2 (v : Nat → Int32) : (wG cI cZ cO ad n np nq F).set 2 (ad 2, .inl (cI, 10, .inl v)) = wG cI cZ cO ad n np nq (va_up F 2 v) := g_setk (k := 2) (by decide) (by decide) (by decide) v
theorem g_at4 : (wG cI cZ cO ad n np nq F)[4]? = some (ad 4, .inl (cI, 150, .inl (F 4))) := AW_get (by decide) (by decide)
theorem g_set4 (v : Nat → Int32) : (wG cI cZ cO ad n np nq F).set 4 (ad 4, .inl (cI, 150, .inl v)) = wG cI cZ cO ad n np nq (va_up F 4 v) := g_setk (k := 4) (by decide) (by decide) (by decide) v
theorem g_at5 : (wG cI cZ cO ad n np nq F)[5]? = some (ad 5, .inl (cI, 150, .inl (F 5))) := AW_get (by decide) (by decide)
theorem g_set5 (v : Nat → Int32) : (wG cI cZ cO ad n np nq F).set 5 (ad 5, .inl (cI, 150, .inl v)) = wG cI cZ cO ad n np nq (va_up F 5 v) := g_setk (k := 5) (by decide) (by decide) (by decide) v
theorem g_at6 : (wG cI cZ cO ad n np nq F)[6]? = some (ad 6, .inl (cI, 150, .inl (F 6))) := AW_get (by decide) (by decide)
theorem g_set6 (v : Nat → Int32) : (wG cI cZ cO ad n np nq F).set 6 (ad 6, .inl (cI, 150, .inl v)) = wG cI cZ cO ad n np nq (va_up F 6 v) := g_setk (k := 6) (by decide) (by decide) (by decide) v
theorem g_at7 : (wG cI cZ cO ad n np nq F)[7]? = some (ad 7, .inl (cI, 150, .inl (F 7))) := AW_get (by decide) (by decide)
theorem g_set7 (v : Nat → Int32) : (wG cI cZ cO ad n np nq F).set 7 (ad 7, .inl (cI, 150, .inl v)) = wG cI cZ cO ad n np nq (va_up F 7 v) := g_setk (k := 7) (by decide) (by decide) (by decide) v
theorem g_at8 : (wG cI cZ cO ad n np nq F)[8]? = some (ad 8, .inl (cI, 20, .inl (F 8))) := AW_get (by decide) (by decide)
theorem g_set8 (v : Nat → Int32) : (wG cI cZ cO ad n np nq F).set 8 (ad 8, .inl (cI, 20, .inl v)) = wG cI cZ cO ad n np nq (va_up F 8 v) := g_setk (k := 8) (by decide) (by decide) (by decide) v
theorem g_at9 : (wG cI cZ cO ad n np nq F)[9]? = some (ad 9, .inl (cI, 20, .inl (F 9))) := AW_get (by decide) (by decide)
theorem g_set9 (v : Nat → Int32) : (wG cI cZ cO ad n np nq F).set 9 (ad 9, .inl (cI, 20, .inl v)) = wG cI cZ cO ad n np nq (va_up F 9 v) := g_setk (k := 9) (by decide) (by decide) (by decide) v
theorem g_at10 : (wG cI cZ cO ad n np nq F)[10]? = some (ad 10, .inl (cI, 20, .inl (F 10))) := AW_get (by decide) (by decide)
theorem g_set10 (v : Nat → Int32) : (wG cI cZ cO ad n np nq F).set 10 (ad 10, .inl (cI, 20, .inl v)) = wG cI cZ cO ad n np nq (va_up F 10 v) := g_setk (k := 10) (by decide) (by decide) (by decide) v
theorem g_at11 : (wG cI cZ cO ad n np nq F)[11]? = some (ad 11, .inl (cI, 20, .inl (F 11))) := AW_get (by decide) (by decide)
theorem g_set11 (v : Nat → Int32) : (wG cI cZ cO ad n np nq F).set 11 (ad 11, .inl (cI, 20, .inl v)) = wG cI cZ cO ad n np nq (va_up F 11 v) := g_setk (k := 11) (by decide) (by decide) (by decide) v
theorem g_at12 : (wG cI cZ cO ad n np nq F)[12]? = some (ad 12, .inl (cZ, 20, .inl (F 12))) := AW_get (by decide) (by decide)
theorem g_set12 (v : Nat → Int32) : (wG cI cZ cO ad n np nq F).set 12 (ad 12, .inl (cZ, 20, .inl v)) = wG cI cZ cO ad n np nq (va_up F 12 v) := g_setk (k := 12) (by decide) (by decide) (by decide) v
theorem g_at13 : (wG cI cZ cO ad n np nq F)[13]? = some (ad 13, .inl (cI, 96, .inl (F 13))) := AW_get (by decide) (by decide)
theorem g_set13 (v : Nat → Int32) : (wG cI cZ cO ad n np nq F).set 13 (ad 13, .inl (cI, 96, .inl v)) = wG cI cZ cO ad n np nq (va_up F 13 v) := g_setk (k := 13) (by decide) (by decide) (by decide) v
theorem gLn_r (k : Nat) : gLn (14 + k) = 96 := by
  unfold gLn
  rw [if_neg (by omega), if_neg (by omega), if_neg (by omega)]
theorem gCl_r (k : Nat) : gCl cI cZ (14 + k) = cI := by
  unfold gCl
  rw [if_neg (by omega)]
theorem g_atr {k : Nat} (hk : k < 10) : (wG cI cZ cO ad n np nq F)[14 + k]? = some (ad (14 + k), .inl (cI, 96, .inl (F (14 + k)))) := by
  unfold wG
  rw [AW_get (by omega) (by omega)]
  show some (ad (14 + k), gE cI cZ cO ad F (14 + k)) = _
  unfold gE
  rw [if_neg (by omega), gLn_r, gCl_r]
theorem g_setr {k : Nat} (hk : k < 10) (v : Nat → Int32) : (wG cI cZ cO ad n np nq F).set (14 + k) (ad (14 + k), .inl (cI, 96, .inl v)) = wG cI cZ cO ad n np nq (va_up F (14 + k) v) := by
  have h := g_setk (cI := cI) (cZ := cZ) (cO := cO) (ad := ad) (n := n) (np := np) (nq := nq) (F := F) (k := 14 + k) (by omega) (by omega) (by omega) v
  rw [gLn_r, gCl_r] at h
  exact h
theorem g_D (hi : inj ad 23) : va_D (inA ad 23) (wG cI cZ cO ad n np nq F) := AW_D rfl hi (fun i h => ⟨i, h, rfl⟩)
theorem g_lt {D : va_G} {cl : List vw_C} {H : Heap} (hP : va_P D cl (wG cI cZ cO ad n np nq F) H) {q : Nat} (h : inA ad 23 q) : q < H.size := by
  obtain ⟨i, hi, rfl⟩ := h
  match i with
  | 0 => exact (hP 0 _ g_at0).lt
  | i + 1 => exact (hP (i + 1) _ (AW_get (by omega) hi)).lt
end GW
-- the reference
def mCells (F : Nat → Nat → Int32) : Nat → Int32 := fun q => F (14 + q / 96) (q % 96)
def mBook (F : Nat → Nat → Int32) : Nat → Int32 := fun q => F (8 + q % 5) (q / 5)
def mE (cI : ClassId) (F : Nat → Nat → Int32) (T : Nat → Int32) (k : Nat) : va_E := if k = 1 then .inl (cI, 10, .inl (F 1)) else if k = 2 then .inl (cI, 960, .inl (mCells F)) else if k ≤ 6 then .inl (cI, 150, .inl (F (k + 1))) else if k = 7 then .inl (cI, 100, .inl (mBook F)) else .inl (cI, 96, .inl T)
def mO (ad : Nat → Nat) (th : Int32) (n np nq : Nat) : Nat × va_E := (ad 0, .inr (1, [.int th, .int (nI n), .ref (ad 1), .ref (ad 2), .int (nI np), .ref (ad 3), .ref (ad 4), .ref (ad 5), .ref (ad 6), .int (nI nq), .ref (ad 7), .ref (ad 8)]))
def wM (cI : ClassId) (ad : Nat → Nat) (th : Int32) (n np nq : Nat) (F : Nat → Nat → Int32) (T : Nat → Int32) : va_W := AW (mO ad th n np nq) ad (mE cI F T) 8
section MW
variable {cI : ClassId} {ad : Nat → Nat} {th : Int32} {n np nq : Nat} {F : Nat → Nat → Int32} {T : Nat → Int32}
theorem m_at0 : (wM cI ad th n np nq F T)[0]? = some (mO ad th n np nq) := rfl
theorem m_at1 : (wM cI ad th n np nq F T)[1]? = some (ad 1, .inl (cI, 10, .inl (F 1))) := AW_get (by decide) (by decide)
theorem m_at2 : (wM cI ad th n np nq F T)[2]? = some (ad 2, .inl (cI, 960, .inl (mCells F))) := AW_get (by decide) (by decide)
theorem m_at3 : (wM cI ad th n np nq F T)[3]? = some (ad 3, .inl (cI, 150, .inl (F 4))) := AW_get (by decide) (by decide)
theorem m_at4 : (wM cI ad th n np nq F T)[4]? = some (ad 4, .inl (cI, 150, .inl (F 5))) := AW_get (by decide) (by decide)
theorem m_at5 : (wM cI ad th n np nq F T)[5]? = some (ad 5, .inl (cI, 150, .inl (F 6))) := AW_get (by decide) (by decide)
theorem m_at6 : (wM cI ad th n np nq F T)[6]? = some (ad 6, .inl (cI, 150, .inl (F 7))) := AW_get (by decide) (by decide)
theorem m_at7 : (wM cI ad th n np nq F T)[7]? = some (ad 7, .inl (cI, 100, .inl (mBook F))) := AW_get (by decide) (by decide)
theorem m_at8 : (wM cI ad th n np nq F T)[8]? = some (ad 8, .inl (cI, 96, .inl T)) := AW_get (by decide) (by decide)
theorem mBook_up {k : Nat} (h : k < 8) (v : Nat → Int32) : mBook (va_up F k v) = mBook F := by
  funext q
  unfold mBook
  rw [va_up_ne _ _ (by omega)]
theorem mCells_up {k : Nat} (h : k < 14) (v : Nat → Int32) : mCells (va_up F k v) = mCells F := by
  funext q
  unfold mCells
  rw [va_up_ne _ _ (by omega)]
theorem mE_get (k : Nat) : mE cI F T k = if k = 1 then .inl (cI, 10, .inl (F 1)) else if k = 2 then .inl (cI, 960, .inl (mCells F)) else if k ≤ 6 then .inl (cI, 150, .inl (F (k + 1))) else if k = 7 then .inl (cI, 100, .inl (mBook F)) else .inl (cI, 96, .inl T) := rfl
theorem m_setA {k : Nat} (h1 : 1 ≤ k) (hk : k ≤ 8) {e : va_E} {F' : Nat → Nat → Int32} {T' : Nat → Int32} (he : e = mE cI F' T' k) (ho : ∀ j, 1 ≤ j → j ≤ 8 → j ≠ k → mE cI F T j = mE cI F' T' j) : (wM cI ad th n np nq F T).set k (ad k, e) = wM cI ad th n np nq F' T' := by
  unfold wM
  rw [AW_set h1 hk]
  show mO ad th n np nq :: _ = mO ad th n np nq :: _
  congr 1
  apply List.map_congr_left
  intro i hi
  have hi : i < 8 := List.mem_range.mp hi
  by_cases hj : i + 1 = k
  · subst hj
    rw [he, va_up_self]
  · rw [va_up_ne _ _ hj, ho _ (by omega) (by omega) hj]
theorem m_set1 (v : Nat → Int32) : (wM cI ad th n np nq F T).set 1 (ad 1, .inl (cI, 10, .inl v)) = wM cI ad th n np nq (va_up F 1 v) T := by
  refine m_setA (by decide) (by decide) (by simp [mE, va_up]) (fun j h1 h8 hj => ?_)
  rcases (show j = 1 ∨ j = 2 ∨ j = 3 ∨ j = 4 ∨ j = 5 ∨ j = 6 ∨ j = 7 ∨ j = 8 by omega) with rfl | rfl | rfl | rfl | rfl | rfl | rfl | rfl <;> first | exact absurd rfl hj | simp [mE, va_up, mBook_up, mCells_up]
theorem m_set3 (v : Nat → Int32) : (wM cI ad th n np nq F T).set 3 (ad 3, .inl (cI, 150, .inl v)) = wM cI ad th n np nq (va_up F 4 v) T := by
  refine m_setA (by decide) (by decide) (by simp [mE, va_up]) (fun j h1 h8 hj => ?_)
  rcases (show j = 1 ∨ j = 2 ∨ j = 3 ∨ j = 4 ∨ j = 5 ∨ j = 6 ∨ j = 7 ∨ j = 8 by omega) with rfl | rfl | rfl | rfl | rfl | rfl | rfl | rfl <;> first | exact absurd rfl hj | simp [mE, va_up, mBook_up, mCells_up]
theorem m_set4 (v : Nat → Int32) : (wM cI ad th n np nq F T).set 4 (ad 4, .inl (cI, 150, .inl v)) = wM cI ad th n np nq (va_up F 5 v) T := by
  refine m_setA (by decide) (by decide) (by simp [mE, va_up]) (fun j h1 h8 hj => ?_)
  rcases (show j = 1 ∨ j = 2 ∨ j = 3 ∨ j = 4 ∨ j = 5 ∨ j = 6 ∨ j = 7 ∨ j = 8 by omega) with rfl | rfl | rfl | rfl | rfl | rfl | rfl | rfl <;> first | exact absurd rfl hj | simp [mE, va_up, mBook_up, mCells_up]
theorem m_set5 (v : Nat → Int32) : (wM cI ad th n np nq F T).set 5 (ad 5, .inl (cI, 150, .inl v)) = wM cI ad th n np nq (va_up F 6 v) T := by
  refine m_setA (by decide) (by decide) (by simp [mE, va_up]) (fun j h1 h8 hj => ?_)
  rcases (show j = 1 ∨ j = 2 ∨ j = 3 ∨ j = 4 ∨ j = 5 ∨ j = 6 ∨ j = 7 ∨ j = 8 by omega) with rfl | rfl | rfl | rfl | rfl | rfl | rfl | rfl <;> first | exact absurd rfl hj | simp [mE, va_up, mBook_up, mCells_up]
theorem m_set6 (v : Nat → Int32) : (wM cI ad th n np nq F T).set 6 (ad 6, .inl (cI, 150, .inl v)) = wM cI ad th n np nq (va_up F 7 v) T := by
  refine m_setA (by decide) (by decide) (by simp [mE, va_up]) (fun j h1 h8 hj => ?_)
  rcases (show j = 1 ∨ j = 2 ∨ j = 3 ∨ j = 4 ∨ j = 5 ∨ j = 6 ∨ j = 7 ∨ j = 8 by omega) with rfl | rfl | rfl | rfl | rfl | rfl | rfl | rfl <;> first | exact absurd rfl hj | simp [mE, va_up, mBook_up, mCells_up]
theorem m_set8 (v : Nat → Int32) : (wM cI ad th n np nq F T).set 8 (ad 8, .inl (cI, 96, .inl v)) = wM cI ad th n np nq F v := by
  refine m_setA (by decide) (by decide) (by simp [mE]) (fun j h1 h8 hj => ?_)
  rcases (show j = 1 ∨ j = 2 ∨ j = 3 ∨ j = 4 ∨ j = 5 ∨ j = 6 ∨ j = 7 ∨ j = 8 by omega) with rfl | rfl | rfl | rfl | rfl | rfl | rfl | rfl <;> first | exact absurd rfl hj | simp [mE]
/-- a row of the cells is written -/
theorem m_set2 {s : Nat} (f : Nat → Int32) (hf : f = mCells (va_up F (14 + s) (fun j => f (96 * s + j)))) : (wM cI ad th n np nq F T).set 2 (ad 2, .inl (cI, 960, .inl f)) = wM cI ad th n np nq (va_up F (14 + s) (fun j => f (96 * s + j))) T := by
  have e : ∀ k, k < 14 → va_up F (14 + s) (fun j => f (96 * s + j)) k = F k := fun k hk => va_up_ne _ _ (by omega)
  have eB : mBook (va_up F (14 + s) (fun j => f (96 * s + j))) = mBook F := by
    funext q
    unfold mBook
    rw [e _ (by omega)]
  refine m_setA (by decide) (by decide) (by rw [mE_get, if_neg (by decide), if_pos rfl, ← hf]) (fun j h1 h8 hj => ?_)
  rcases (show j = 1 ∨ j = 2 ∨ j = 3 ∨ j = 4 ∨ j = 5 ∨ j = 6 ∨ j = 7 ∨ j = 8 by omega) with rfl | rfl | rfl | rfl | rfl | rfl | rfl | rfl <;> first | exact absurd rfl hj | simp [mE, e, eB]
/-- the book is written -/
theorem m_set7 {F' : Nat → Nat → Int32} {f : Nat → Int32} (hf : f = mBook F') (ho : ∀ k, k < 8 ∨ 13 ≤ k → F' k = F k) : (wM cI ad th n np nq F T).set 7 (ad 7, .inl (cI, 100, .inl f)) = wM cI ad th n np nq F' T := by
  have eC : mCells F' = mCells F := by
    funext q
    unfold mCells
    rw [ho _ (Or.inr (by omega))]
  have e : ∀ k, k < 8 → F' k = F k := fun k hk => ho k (Or.inl hk)
  refine m_setA (by decide) (by decide) (by simp [mE, hf]) (fun j h1 h8 hj => ?_)
  rcases (show j = 1 ∨ j = 2 ∨ j = 3 ∨ j = 4 ∨ j = 5 ∨ j = 6 ∨ j = 7 ∨ j = 8 by omega) with rfl | rfl | rfl | rfl | rfl | rfl | rfl | rfl <;> first | exact absurd rfl hj | simp [mE, e, eC]
theorem m_D (hi : inj ad 8) : va_D (inA ad 8) (wM cI ad th n np nq F T) := AW_D rfl hi (fun i h => ⟨i, h, rfl⟩)
theorem m_lt {D : va_G} {cl : List vw_C} {H : Heap} (hP : va_P D cl (wM cI ad th n np nq F T) H) {q : Nat} (h : inA ad 8 q) : q < H.size := by
  obtain ⟨i, hi, rfl⟩ := h
  match i with
  | 0 => exact (hP 0 _ m_at0).lt
  | i + 1 => exact (hP (i + 1) _ (AW_get (by omega) hi)).lt
end MW
-- the single array
theorem a_D {a : Nat} {e : va_E} : va_D (fun q => q = a) [(a, e)] := ⟨fun i j p q hi hj _ => by
  match i, j, hi, hj with
  | 0, 0, _, _ => rfl
  | 0, j + 1, _, hj => simp at hj
  | i + 1, _, hi, _ => simp at hi, fun k q hk => by
  match k, hk with
  | 0, hk => cases hk; rfl
  | k + 1, hk => simp at hk⟩
theorem P_kept {D : va_G} {cl : List vw_C} {ws : va_W} {H H1 : Heap} (h : va_P D cl ws H) (hk : ∀ q : Nat, q < H.size → ¬ False → H1[q]? = H[q]?) : va_P D cl ws H1 := h.kept (fun k q hq => hk q.1 (h k q hq).lt id)
theorem P_pick {D : va_G} {cl : List vw_C} {ws : va_W} {H : Heap} (h : va_P D cl ws H) {k : Nat} {q : Nat × va_E} (hq : ws[k]? = some q) : va_P D cl [q] H := fun i r hr => by
  match i, hr with
  | 0, hr => cases hr; exact h k _ hq
  | i + 1, hr => simp at hr
/-- one cell of a world was written by a callee -/
theorem P_put {D : va_G} {cl : List vw_C} {A : Nat → Prop} {ws : va_W} {H H1 : Heap} {k a : Nat} {e0 e : va_E} (h : va_P D cl ws H) (hD : va_D A ws) (hq : ws[k]? = some (a, e0)) (hk : ∀ q : Nat, q < H.size → ¬ q = a → H1[q]? = H[q]?) (h1 : va_P D cl [(a, e)] H1) : va_P D cl (ws.set k (a, e)) H1 := by
  intro i r hr
  rw [List.getElem?_set] at hr
  by_cases hik : k = i
  · subst hik
    have hlt : k < ws.length := (List.getElem?_eq_some_iff.mp hq).1
    simp [hlt] at hr
    cases hr
    exact h1 0 _ rfl
  · rw [if_neg hik] at hr
    have hne : r.1 ≠ a := fun z => hik (hD.1 k i (a, e0) r hq hr z.symm)
    exact (h i r hr).kept (hk r.1 (h i r hr).lt hne)
/-- what a method needs at its start: its world, the tables, and more -/
def Pr (D : va_G) (tys : List (ClassId × FieldType)) (ws : va_W) (V : State → Prop) (U : State) : Prop := va_P D vwCl ws U.heap ∧ va_K D vwCl tys U ∧ V U
theorem pr_S {s : State} {H : Heap} {D : va_G} {tys tys' : List (ClassId × FieldType)} {ws : va_W} {V : State → Prop} {av : List Value} (hP : va_P D vwCl ws H) (hK : va_K D vwCl tys s) (is : List Nat) (hs : is.filterMap (fun i => tys[i]?) = tys') (hV : ∀ U : State, U.heap = H → s.WarmedH U.vm → V U) (hB : ∀ (U : State) (g : JFrame) (mk : MethodId) (a : Array Value), V U → V (U.calling g mk a)) : PreS s H (va_Pc av (Pr D tys' ws V)) av :=
  ⟨fun a U g mk q => ⟨q.1, q.2.1, va_K.moved (u := U) (U := U.calling g mk a) (Vm.Alike.refl U.vm) q.2.2.1, hB U g mk a q.2.2.2⟩, fun U hU hW => ⟨rfl, by rw [hU]; exact hP, va_K.moved hW.alike (hK.sub is hs), hV U hU hW⟩⟩
theorem pr_V {s : State} {H : Heap} {D : va_G} {tys tys' : List (ClassId × FieldType)} {ws ws0 : va_W} {V : State → Prop} {av : List Value} {C : String} {b q0 ci : Nat} {q : vw_C} {fs : List Value} (hP0 : va_P D vwCl ws0 H) (hc : vwCl[ci]? = some q) (he : ws0[q0]? = some (b, .inr (ci, fs))) (hC : q.1 = C) (hP : va_P D vwCl ws H) (hK : va_K D vwCl tys s) (is : List Nat) (hs : is.filterMap (fun i => tys[i]?) = tys') (hV : ∀ U : State, U.heap = H → s.WarmedH U.vm → V U) (hB : ∀ (U : State) (g : JFrame) (mk : MethodId) (a : Array Value), V U → V (U.calling g mk a)) : PreV s H C b (va_Pc (.ref b :: av) (Pr D tys' ws V)) av := by
  subst hC
  exact ⟨(pr_S hP hK is hs hV hB (av := .ref b :: av)).1, va_recv hK hP0 hc he, (pr_S hP hK is hs hV hB (av := .ref b :: av)).2⟩
def V0 : State → Prop := fun _ => True
theorem V0_at {s : State} {H : Heap} : ∀ U : State, U.heap = H → s.WarmedH U.vm → V0 U := fun _ _ _ => trivial
theorem V0_c : ∀ (U : State) (g : JFrame) (mk : MethodId) (a : Array Value), V0 U → V0 (U.calling g mk a) := fun _ _ _ _ _ => trivial
theorem nv_aald {p : Program} {l : Launch} {e : Env} {R : Room} {s : State} {m : MethodId} {args : Array Value} {below : List Frame} {meth : Method} {c : Code} {H : Heap} {locs : List Loc} {cells slots : Nat} {Q : State → Prop} {cc : ByteArray} {pc : Nat} {ls : Array Slot} {rest : List Value} {D : va_G} {cl : List vw_C} {a : Nat} {tys : List (ClassId × FieldType)} {ws : va_W} (hx : p.tables.exec = Jvm.exec) (hb : c.code = cc) (hK : va_K D cl tys s) (hP : va_P D cl ws H) (q0 t0 : Nat) {cA : ClassId} {n : Nat} {f : Nat → Option Nat} (ha : ws[q0]? = some (a, .inl (cA, n, .inr (.inr (.inr (.inr f)))))) (ht : tys[t0]? = some (cA, .array .int)) {i r : Nat} (hi : i < n) (hn : n < 2 ^ 31) (hf : f i = some r) (hdg : decode cc pc = .ok (.aaload, 1))
    (kk : W p l e R s m args below meth c H locs cells slots Q (F0 m (pc + 1) ls (.ref r :: rest))) : W p l e R s m args below meth c H locs cells slots Q (F0 m pc ls (.int (nI i) :: .ref a :: rest)) := by
  have hcl : (nI i).toNatClampNeg = i := nI_clamp (Nat.lt_trans hi hn)
  have hin : vp_in (nI i) n := vp_in_nI hi hn
  refine W.aald (v := .ref r) (ty := .array .int) hx hb (hP q0 _ ha) ((hK.2 t0 _ ht).1 n (fun j => va_rf (f j))) rfl (fun q => by cases q) (by show ¬ (nI i < 0 ∨ (arrV _ _ _).slots.size ≤ _); rw [arrV_size]; exact hin) (by show (arrV _ _ _).slots[_]? = _; rw [hcl, arrV_read _ _ hi, hf]; rfl) rfl rfl hdg kk
end
section
/-! the sums and fills that both sides make -/
def cn (P : Nat → Bool) : Nat → Nat | 0 => 0 | k + 1 => cn P k + (if P k then 1 else 0)
theorem cn_s (P : Nat → Bool) (k : Nat) : cn P (k + 1) = cn P k + (if P k then 1 else 0) := rfl
theorem cn_t {P : Nat → Bool} {k : Nat} (h : P k = true) : cn P (k + 1) = cn P k + 1 := by rw [cn_s, h]; rfl
theorem cn_f {P : Nat → Bool} {k : Nat} (h : P k = false) : cn P (k + 1) = cn P k := by rw [cn_s, h]; rfl
theorem cn_le (P : Nat → Bool) : ∀ k, cn P k ≤ k
  | 0 => Nat.le_refl _
  | k + 1 => by
    have := cn_le P k
    rw [cn_s]
    split <;> omega
theorem cn_cong {P Q : Nat → Bool} : ∀ {k : Nat}, (∀ j, j < k → P j = Q j) → cn P k = cn Q k
  | 0, _ => rfl
  | k + 1, h => by rw [cn_s, cn_s, cn_cong (fun j hj => h j (by omega)), h k (by omega)]
/-- the place of the k-th cell of a part that is w wide, in rows of 12 -/
def pl (fr w k : Nat) : Nat := fr + (k / w * 12 + k % w)
def ctP (f : Nat → Int32) (fr w : Nat) (v : Int32) (k : Nat) : Bool := f (pl fr w k) == v
/-- how many cells of a part hold v -/
def ct (f : Nat → Int32) (fr w : Nat) (v : Int32) (k : Nat) : Nat := cn (ctP f fr w v) k
def fl (f : Nat → Int32) (fr w : Nat) (v : Int32) : Nat → Nat → Int32 | 0 => f | k + 1 => upd (fl f fr w v k) (pl fr w k) v
theorem ct_le (f : Nat → Int32) (fr w : Nat) (v : Int32) (k : Nat) : ct f fr w v k ≤ k := cn_le _ _
theorem pl_row {fr w r c : Nat} (hc : c < w) : pl fr w (w * r + c) = fr + (r * 12 + c) := by
  unfold pl
  rw [Nat.mul_add_div (by omega), Nat.mul_add_mod, Nat.div_eq_of_lt hc, Nat.mod_eq_of_lt hc, Nat.add_zero]
theorem ct_yes {f : Nat → Int32} {fr w : Nat} {v : Int32} {k q : Nat} (hq : pl fr w k = q) (h : f q = v) : ct f fr w v (k + 1) = ct f fr w v k + 1 := cn_t (by unfold ctP; rw [hq, h]; exact beq_self_eq_true v)
theorem ct_no {f : Nat → Int32} {fr w : Nat} {v : Int32} {k q : Nat} (hq : pl fr w k = q) (h : ¬ f q = v) : ct f fr w v (k + 1) = ct f fr w v k := cn_f (by unfold ctP; rw [hq]; exact beq_false_of_ne h)
end
section
/-! the tables of both classes, what a throw needs, and small rows more -/
def kW (k : Nat) : Nat := if k = 0 then 4 else if k = 1 then 2 else 1
def kH (k : Nat) : Nat := if k = 0 then 3 else if k = 1 then 2 else if k = 2 then 3 else 1
def kT (k : Nat) : Nat := if k = 0 then 0 else 1
def kP (k : Nat) : Nat := if k = 0 then 2 else if k = 1 then 2 else if k = 2 then 6 else 4
theorem kW_le (k : Nat) : kW k ≤ 4 ∧ 1 ≤ kW k := by unfold kW; split; omega; split <;> omega
theorem kH_le (k : Nat) : kH k ≤ 3 ∧ 1 ≤ kH k := by unfold kH; split; omega; split; omega; split <;> omega
theorem kT_le (k : Nat) : kT k ≤ 1 := by unfold kT; split <;> omega
theorem kP_le (k : Nat) : kP k ≤ 6 ∧ 2 ≤ kP k := by unfold kP; split; omega; split; omega; split <;> omega
def TB (C nm : String) (g : Nat → Nat) (A : Nat → Prop) (U : State) : Prop := ∃ t : Nat, va_Z C nm "[I" (.ref t) A U U.heap ∧ va_T .int t 4 (fun j => .int (nI (g j))) A U U.heap
def TE (A : Nat → Prop) (U : State) : Prop := vx_Zq Bundle.tN "UNASSIGNED_STACK" Bundle.steD A U U.heap ∧ vx_Zq Bundle.tN "SUPPRESSED_SENTINEL" Bundle.listD A U U.heap
theorem TB.at {C nm : String} {g : Nat → Nat} {A A1 B : Nat → Prop} {s : State} {H : Heap} {locs : List Loc} (h : TB C nm g A s) (hS : va_S A1 s.heap H locs) (h1 : ∀ q, A1 q → A q) (h2 : ∀ q, B q → A q) {U : State} (hU : U.heap = H) (hW : s.WarmedH U.vm) : TB C nm g B U := by
  obtain ⟨t, hz, ht⟩ := h
  have hk : ∀ a : Nat, a < s.heap.size → ¬ A a → U.heap[a]? = s.heap[a]? := fun a ha hn => by rw [hU]; exact hS.2.1 a ha (fun q => hn (h1 a q))
  exact ⟨t, va_Z.narrow (va_Z.kept (va_Z.moved hW.alike hz) hk) h2, va_T.narrow (va_T.kept (va_T.moved hW.alike ht) hk) h2⟩
theorem TB.c {C nm : String} {g : Nat → Nat} {A : Nat → Prop} {U : State} (gf : JFrame) (mk : MethodId) (a : Array Value) (h : TB C nm g A U) : TB C nm g A (U.calling gf mk a) := by
  obtain ⟨t, hz, ht⟩ := h
  exact ⟨t, va_Z.moved (U := U.calling gf mk a) (Vm.Alike.refl U.vm) hz, va_T.moved (U := U.calling gf mk a) (Vm.Alike.refl U.vm) ht⟩
theorem TE.at {A A1 B : Nat → Prop} {s : State} {H : Heap} {locs : List Loc} (h : TE A s) (hS : va_S A1 s.heap H locs) (h1 : ∀ q, A1 q → A q) (h2 : ∀ q, B q → A q) {U : State} (hU : U.heap = H) (hW : s.WarmedH U.vm) : TE B U := by
  have hk : ∀ a : Nat, a < s.heap.size → ¬ A a → U.heap[a]? = s.heap[a]? := fun a ha hn => by rw [hU]; exact hS.2.1 a ha (fun q => hn (h1 a q))
  exact ⟨vx_Zq.narrow (vx_Zq.kept (vx_Zq.moved hW.alike h.1) hk) h2, vx_Zq.narrow (vx_Zq.kept (vx_Zq.moved hW.alike h.2) hk) h2⟩
theorem TE.c {A : Nat → Prop} {U : State} (gf : JFrame) (mk : MethodId) (a : Array Value) (h : TE A U) : TE A (U.calling gf mk a) := ⟨vx_Zq.moved (U := U.calling gf mk a) (Vm.Alike.refl U.vm) h.1, vx_Zq.moved (U := U.calling gf mk a) (Vm.Alike.refl U.vm) h.2⟩
def SR (k : Nat) (tx : String) (U : State) : Prop := ∃ a : Nat, vk_R RX0 k tx a U
theorem SR.at {k : Nat} {tx : String} {s U : State} (h : SR k tx s) (hW : s.WarmedH U.vm) : SR k tx U := by
  obtain ⟨a, h⟩ := h
  exact ⟨a, vk_R.warm hW h⟩
theorem SR.c {k : Nat} {tx : String} {U : State} (gf : JFrame) (mk : MethodId) (a : Array Value) (h : SR k tx U) : SR k tx (U.calling gf mk a) := by
  obtain ⟨q, h⟩ := h
  exact ⟨q, vk_R.same (u := U) (U := U.calling gf mk a) rfl h⟩
def StrG (U : State) : Prop := SR 193 "colour is not 0 to 5" U ∧ SR 62 "there are 10 skins" U ∧ SR 185 "no such skin" U ∧ SR 189 "no such cell" U ∧ SR 76 "the part is empty or not on the skin" U ∧ SR 79 "how is not 0 to 2" U ∧ SR 85 "a cell of it is cut" U ∧ SR 191 "nothing is told by this number" U ∧ SR 195 "kind is not 0 to 3" U ∧ SR 105 "it cannot be cut there" U ∧ SR 110 "150 pieces were cut" U ∧ SR 125 "no such piece" U ∧ SR 134 "pieces are lacking" U ∧ SR 139 "20 pairs were sewn" U ∧ SR 187 "no such pair" U ∧ SR 147 "it is ripped up" U
theorem StrG.at {s U : State} (h : StrG s) (hW : s.WarmedH U.vm) : StrG U := ⟨SR.at (h.1) hW, SR.at (h.2.1) hW, SR.at (h.2.2.1) hW, SR.at (h.2.2.2.1) hW, SR.at (h.2.2.2.2.1) hW, SR.at (h.2.2.2.2.2.1) hW, SR.at (h.2.2.2.2.2.2.1) hW, SR.at (h.2.2.2.2.2.2.2.1) hW, SR.at (h.2.2.2.2.2.2.2.2.1) hW, SR.at (h.2.2.2.2.2.2.2.2.2.1) hW, SR.at (h.2.2.2.2.2.2.2.2.2.2.1) hW, SR.at (h.2.2.2.2.2.2.2.2.2.2.2.1) hW, SR.at (h.2.2.2.2.2.2.2.2.2.2.2.2.1) hW, SR.at (h.2.2.2.2.2.2.2.2.2.2.2.2.2.1) hW, SR.at (h.2.2.2.2.2.2.2.2.2.2.2.2.2.2.1) hW, SR.at (h.2.2.2.2.2.2.2.2.2.2.2.2.2.2.2) hW⟩
theorem StrG.c {U : State} (gf : JFrame) (mk : MethodId) (a : Array Value) (h : StrG U) : StrG (U.calling gf mk a) := ⟨SR.c gf mk a (h.1), SR.c gf mk a (h.2.1), SR.c gf mk a (h.2.2.1), SR.c gf mk a (h.2.2.2.1), SR.c gf mk a (h.2.2.2.2.1), SR.c gf mk a (h.2.2.2.2.2.1), SR.c gf mk a (h.2.2.2.2.2.2.1), SR.c gf mk a (h.2.2.2.2.2.2.2.1), SR.c gf mk a (h.2.2.2.2.2.2.2.2.1), SR.c gf mk a (h.2.2.2.2.2.2.2.2.2.1), SR.c gf mk a (h.2.2.2.2.2.2.2.2.2.2.1), SR.c gf mk a (h.2.2.2.2.2.2.2.2.2.2.2.1), SR.c gf mk a (h.2.2.2.2.2.2.2.2.2.2.2.2.1), SR.c gf mk a (h.2.2.2.2.2.2.2.2.2.2.2.2.2.1), SR.c gf mk a (h.2.2.2.2.2.2.2.2.2.2.2.2.2.2.1), SR.c gf mk a (h.2.2.2.2.2.2.2.2.2.2.2.2.2.2.2)⟩
def TW (w : Cond) (U : State) : Prop := w.before #[] U = true
theorem TW.tr {c : Cond} (hc : c.onTables = true) {u U : State} (h : c.before #[] (u.setVm U.vm) = true) : TW c U := by
  have e := Cond.onTables_vm (A := #[]) (A' := #[]) (U := u) (U' := U) U.vm c hc
  have hU : U.setVm U.vm = U := rfl
  rw [hU] at e
  show c.before #[] U = true
  rw [← e]
  exact h
theorem TW.dec {x : MethodName} {u U : State} (hvm : u.vm.Alike U.vm) (h : TW (.declares x) u) : TW (.declares x) U := TW.tr rfl (by rw [Cond.declares_setVm hvm]; exact h)
theorem TW.cast {C T : String} {u U : State} (hvm : u.vm.Alike U.vm) (h : TW (.castable C T) u) : TW (.castable C T) U := TW.tr rfl (by rw [Cond.castable_setVm hvm]; exact h)
/-- what a throw asks of the tables beside its method's own words -/
def ThW (U : State) : Prop := TW (.declares (Bundle.initS "java/lang/RuntimeException")) U ∧ TW (.declares (Bundle.initS "java/lang/Exception")) U ∧ TW (.declares (Bundle.initS Bundle.tN)) U ∧ TW (.castable "java/lang/IndexOutOfBoundsException" "java/lang/IndexOutOfBoundsException") U ∧ TW (.castable "java/lang/IllegalArgumentException" "java/lang/IllegalArgumentException") U ∧ TW (.castable "java/lang/IllegalStateException" "java/lang/IllegalStateException") U
theorem ThW.moved {u U : State} (hvm : u.vm.Alike U.vm) (h : ThW u) : ThW U := ⟨h.1.dec hvm, h.2.1.dec hvm, h.2.2.1.dec hvm, h.2.2.2.1.cast hvm, h.2.2.2.2.1.cast hvm, h.2.2.2.2.2.cast hvm⟩
def StrT (U : State) : Prop := StrG U ∧ ThW U
def EnvG (A : Nat → Prop) (U : State) : Prop := TB RX0 "KIND_WIDE" kW A U ∧ TB RX0 "KIND_HIGH" kH A U ∧ TB RX0 "KIND_MOST_THIN" kT A U ∧ TB RX0 "KIND_IN_PAIR" kP A U ∧ TE A U ∧ StrT U
theorem EnvG.at {A A1 B : Nat → Prop} {s : State} {H : Heap} {locs : List Loc} (h : EnvG A s) (hS : va_S A1 s.heap H locs) (h1 : ∀ q, A1 q → A q) (h2 : ∀ q, B q → A q) : ∀ U : State, U.heap = H → s.WarmedH U.vm → EnvG B U := fun _ hU hW => ⟨h.1.at hS h1 h2 hU hW, h.2.1.at hS h1 h2 hU hW, h.2.2.1.at hS h1 h2 hU hW, h.2.2.2.1.at hS h1 h2 hU hW, h.2.2.2.2.1.at hS h1 h2 hU hW, ⟨h.2.2.2.2.2.1.at hW, h.2.2.2.2.2.2.moved hW.alike⟩⟩
theorem EnvG_c {A : Nat → Prop} : ∀ (U : State) (g : JFrame) (mk : MethodId) (a : Array Value), EnvG A U → EnvG A (U.calling g mk a) := fun U g mk a h => ⟨h.1.c g mk a, h.2.1.c g mk a, h.2.2.1.c g mk a, h.2.2.2.1.c g mk a, h.2.2.2.2.1.c g mk a, ⟨h.2.2.2.2.2.1.c g mk a, h.2.2.2.2.2.2.moved (U := U.calling g mk a) (Vm.Alike.refl U.vm)⟩⟩
theorem TB.nar {C nm : String} {g : Nat → Nat} {A B : Nat → Prop} {U : State} (h : TB C nm g A U) (h2 : ∀ q, B q → A q) : TB C nm g B U := by
  obtain ⟨t, hz, ht⟩ := h
  exact ⟨t, va_Z.narrow hz h2, va_T.narrow ht h2⟩
theorem EnvG.nar {A B : Nat → Prop} {U : State} (h : EnvG A U) (h2 : ∀ q, B q → A q) : EnvG B U := ⟨h.1.nar h2, h.2.1.nar h2, h.2.2.1.nar h2, h.2.2.2.1.nar h2, ⟨h.2.2.2.2.1.1.narrow h2, h.2.2.2.2.1.2.narrow h2⟩, h.2.2.2.2.2⟩
def EnvM (A : Nat → Prop) (U : State) : Prop := TB RX1 "ACROSS" kW A U ∧ TB RX1 "DOWN" kH A U ∧ TB RX1 "NEEDS" kP A U
theorem EnvM.at {A A1 B : Nat → Prop} {s : State} {H : Heap} {locs : List Loc} (h : EnvM A s) (hS : va_S A1 s.heap H locs) (h1 : ∀ q, A1 q → A q) (h2 : ∀ q, B q → A q) : ∀ U : State, U.heap = H → s.WarmedH U.vm → EnvM B U := fun _ hU hW => ⟨h.1.at hS h1 h2 hU hW, h.2.1.at hS h1 h2 hU hW, h.2.2.at hS h1 h2 hU hW⟩
theorem EnvM_c {A : Nat → Prop} : ∀ (U : State) (g : JFrame) (mk : MethodId) (a : Array Value), EnvM A U → EnvM A (U.calling g mk a) := fun _ g mk a h => ⟨h.1.c g mk a, h.2.1.c g mk a, h.2.2.c g mk a⟩
theorem EnvM.nar {A B : Nat → Prop} {U : State} (h : EnvM A U) (h2 : ∀ q, B q → A q) : EnvM B U := ⟨h.1.nar h2, h.2.1.nar h2, h.2.2.nar h2⟩
theorem sub_id {A : Nat → Prop} : ∀ q, A q → A q := fun _ h => h
theorem sub_no {A : Nat → Prop} : ∀ q : Nat, (fun _ => False) q → A q := fun _ h => h.elim
theorem S_mono {A : Nat → Prop} {H0 H : Heap} {locs : List Loc} (h : va_S (fun _ => False) H0 H locs) : va_S A H0 H locs := ⟨h.1, fun q h1 _ => h.2.1 q h1 id, fun l hl => (h.2.2 l hl).elim⟩
theorem P_nil {D : va_G} {cl : List vw_C} {H : Heap} : va_P D cl [] H := fun k q h => by simp at h
theorem bI_nar (b : Bool) : narrow .boolean (.int (bI b)) = .int (bI b) := by cases b <;> decide
theorem nI_max {a b : Nat} (ha : a < 2 ^ 31) (hb : b < 2 ^ 31) : (if nI a < nI b then nI b else nI a) = nI (max a b) := by
  by_cases h : a < b
  · rw [if_pos ((nI_ltI ha hb).mpr h), Nat.max_eq_right (Nat.le_of_lt h)]
  · rw [if_neg (fun q => h ((nI_ltI ha hb).mp q)), Nat.max_eq_left (Nat.not_lt.mp h)]
theorem nI_min {a b : Nat} (ha : a < 2 ^ 31) (hb : b < 2 ^ 31) : (if nI a < nI b then nI a else nI b) = nI (min a b) := by
  by_cases h : a < b
  · rw [if_pos ((nI_ltI ha hb).mpr h), Nat.min_eq_left (Nat.le_of_lt h)]
  · rw [if_neg (fun q => h ((nI_ltI ha hb).mp q)), Nat.min_eq_right (Nat.not_lt.mp h)]
/-- an int argument that is an index -/
def inR (x : Int32) (n : Nat) : Bool := decide (0 ≤ x) && decide (x < nI n)
theorem inR_t {x : Int32} {n : Nat} (hn : n < 2 ^ 31) (h : inR x n = true) : ∃ j : Nat, j < n ∧ x = nI j := by
  unfold inR at h
  simp only [Bool.and_eq_true, decide_eq_true_eq] at h
  rcases pk_ix x hn with q | q | q
  · exact absurd h.1 (by rw [Int32.not_le]; exact q)
  · exact absurd h.2 (by rw [Int32.not_lt]; exact q)
  · exact q
theorem inR_n {j n : Nat} (hj : j < 2 ^ 31) (hn : n < 2 ^ 31) : inR (nI j) n = decide (j < n) := by
  unfold inR
  rw [decide_eq_true (nI_pos' hj), Bool.true_and]
  exact decide_eq_decide.mpr (nI_ltI hj hn)
theorem inR_y {x : Int32} {n : Nat} (h1 : ¬ x < 0) (h2 : x < nI n) : inR x n = true := by
  unfold inR
  rw [decide_eq_true (Int32.not_lt.mp h1), decide_eq_true h2]; rfl
theorem inR_lo {x : Int32} {n : Nat} (h1 : x < 0) : inR x n = false := by
  unfold inR
  rw [decide_eq_false (fun q => absurd h1 (Int32.not_lt.mpr q)), Bool.false_and]
theorem inR_hi {x : Int32} {n : Nat} (h2 : ¬ x < nI n) : inR x n = false := by
  unfold inR
  rw [decide_eq_false h2, Bool.and_false]
section NV2
variable {p : Program} {l : Launch} {e : Env} {R : Room} {s : State} {m : MethodId} {args : Array Value} {below : List Frame} {meth : Method} {c : Code} {H : Heap} {locs : List Loc} {cells slots : Nat} {Q : State → Prop}
variable {cc : ByteArray} {pc : Nat} {ls : Array Slot} {rest : List Value} {D : va_G} {cl : List vw_C} {A : Nat → Prop} {a : Nat} {tys : List (ClassId × FieldType)} {ws : va_W} {H0 : Heap}
theorem nv_tab (hx : p.tables.exec = Jvm.exec) (hb : c.code = cc) {t : Nat} {g : Nat → Nat} (hT : va_T .int t 4 (fun j => .int (nI (g j))) A s s.heap) (hS : va_S A s.heap H locs) {i : Nat} (hi : i < 4) (hdg : decode cc pc = .ok (.iaload, 1)) (kk : W p l e R s m args below meth c H locs cells slots Q (F0 m (pc + 1) ls (.int (nI (g i)) :: rest))) : W p l e R s m args below meth c H locs cells slots Q (F0 m pc ls (.int (nI i) :: .ref t :: rest)) :=
  va_ti hx hb hT hS (vp_in_nI hi (by decide)) (v := .int (nI (g i))) (by show Value.int (nI (g (nI i).toNatClampNeg)) = _; rw [nI_clamp (Nat.lt_trans hi (by decide))]) hdg kk
theorem nv_zald (hx : p.tables.exec = Jvm.exec) (hb : c.code = cc) (hK : va_K D cl tys s) (hP : va_P D cl ws H) (q0 t0 : Nat) {cA : ClassId} {n : Nat} {f : Nat → Int32} (ha : ws[q0]? = some (a, .inl (cA, n, .inl f))) (ht : tys[t0]? = some (cA, .boolean)) {i : Nat} (hi : i < n) (hn : n < 2 ^ 31) (hdg : decode cc pc = .ok (.baload, 1)) (kk : W p l e R s m args below meth c H locs cells slots Q (F0 m (pc + 1) ls (.int (f i) :: rest))) : W p l e R s m args below meth c H locs cells slots Q (F0 m pc ls (.int (nI i) :: .ref a :: rest)) := va_zald hx hb hK hP q0 t0 ha ht (vp_in_nI hi hn) hdg (by rw [nI_clamp (Nat.lt_trans hi hn)]; exact kk)
theorem nv_zast (hx : p.tables.exec = Jvm.exec) (hb : c.code = cc) (hK : va_K D cl tys s) (hP : va_P D cl ws H) (hD : va_D A ws) (hS : va_S A H0 H locs) (q0 t0 : Nat) {cA : ClassId} {n : Nat} {f : Nat → Int32} (ha : ws[q0]? = some (a, .inl (cA, n, .inl f))) (ht : tys[t0]? = some (cA, .boolean)) {i : Nat} {x : Int32} (hi : i < n) (hn : n < 2 ^ 31) (hz : vp_nar .boolean x = x) (hdg : decode cc pc = .ok (.bastore, 1))
    (kk : ∀ (H1 : Heap) (locs1 : List Loc), va_P D cl (ws.set q0 (a, .inl (cA, n, .inl (upd f i x)))) H1 → va_D A (ws.set q0 (a, .inl (cA, n, .inl (upd f i x)))) → va_S A H0 H1 locs1 → W p l e R s m args below meth c H1 locs1 cells slots Q (F0 m (pc + 1) ls rest)) : W p l e R s m args below meth c H locs cells slots Q (F0 m pc ls (.int x :: .int (nI i) :: .ref a :: rest)) := va_zast hx hb hK hP hD hS q0 t0 ha ht (vp_in_nI hi hn) hdg (by rw [nI_clamp (Nat.lt_trans hi hn), hz]; exact kk)
end NV2

def nX : String := "java/lang/IndexOutOfBoundsException"
theorem gd_X : ∀ w ∈ Cond.classLink RX0 123 "java/lang/IndexOutOfBoundsException" :: Cond.initialized "java/lang/IndexOutOfBoundsException" :: (vx_atS RX0 127 "java/lang/IndexOutOfBoundsException" ["java/lang/RuntimeException", "java/lang/Exception"]), vx_ot w = true := by decide +kernel
theorem ng_X : ∀ w ∈ (vx_atS RX0 127 "java/lang/IndexOutOfBoundsException" ["java/lang/RuntimeException", "java/lang/Exception"]).filter (fun w => !goodWord w), w ∈ [Cond.declares (Bundle.initS "java/lang/RuntimeException"), Cond.declares (Bundle.initS "java/lang/Exception"), Cond.declares (Bundle.initS Bundle.tN), Cond.castable "java/lang/IndexOutOfBoundsException" "java/lang/IndexOutOfBoundsException"] := by decide +kernel
theorem at_X {args : Array Value} {s : State} (h1 : ∀ w ∈ (vx_atS RX0 127 "java/lang/IndexOutOfBoundsException" ["java/lang/RuntimeException", "java/lang/Exception"]).filter goodWord, w.before args s = true) (hT : ThW s) : ∀ w ∈ (vx_atS RX0 127 "java/lang/IndexOutOfBoundsException" ["java/lang/RuntimeException", "java/lang/Exception"]), w.before args s = true := vx_hat h1 ng_X (vx_c (va_any rfl hT.1) (vx_c (va_any rfl hT.2.1) (vx_c (va_any rfl hT.2.2.1) (vx_c (va_any rfl hT.2.2.2.1) vx_n))))
def nA : String := "java/lang/IllegalArgumentException"
theorem gd_A : ∀ w ∈ Cond.classLink RX0 74 "java/lang/IllegalArgumentException" :: Cond.initialized "java/lang/IllegalArgumentException" :: (vx_atS RX0 78 "java/lang/IllegalArgumentException" ["java/lang/RuntimeException", "java/lang/Exception"]), vx_ot w = true := by decide +kernel
theorem ng_A : ∀ w ∈ (vx_atS RX0 78 "java/lang/IllegalArgumentException" ["java/lang/RuntimeException", "java/lang/Exception"]).filter (fun w => !goodWord w), w ∈ [Cond.declares (Bundle.initS "java/lang/RuntimeException"), Cond.declares (Bundle.initS "java/lang/Exception"), Cond.declares (Bundle.initS Bundle.tN), Cond.castable "java/lang/IllegalArgumentException" "java/lang/IllegalArgumentException"] := by decide +kernel
theorem at_A {args : Array Value} {s : State} (h1 : ∀ w ∈ (vx_atS RX0 78 "java/lang/IllegalArgumentException" ["java/lang/RuntimeException", "java/lang/Exception"]).filter goodWord, w.before args s = true) (hT : ThW s) : ∀ w ∈ (vx_atS RX0 78 "java/lang/IllegalArgumentException" ["java/lang/RuntimeException", "java/lang/Exception"]), w.before args s = true := vx_hat h1 ng_A (vx_c (va_any rfl hT.1) (vx_c (va_any rfl hT.2.1) (vx_c (va_any rfl hT.2.2.1) (vx_c (va_any rfl hT.2.2.2.2.1) vx_n))))
def nS : String := "java/lang/IllegalStateException"
theorem gd_S : ∀ w ∈ Cond.classLink RX0 60 "java/lang/IllegalStateException" :: Cond.initialized "java/lang/IllegalStateException" :: (vx_atS RX0 64 "java/lang/IllegalStateException" ["java/lang/RuntimeException", "java/lang/Exception"]), vx_ot w = true := by decide +kernel
theorem ng_S : ∀ w ∈ (vx_atS RX0 64 "java/lang/IllegalStateException" ["java/lang/RuntimeException", "java/lang/Exception"]).filter (fun w => !goodWord w), w ∈ [Cond.declares (Bundle.initS "java/lang/RuntimeException"), Cond.declares (Bundle.initS "java/lang/Exception"), Cond.declares (Bundle.initS Bundle.tN), Cond.castable "java/lang/IllegalStateException" "java/lang/IllegalStateException"] := by decide +kernel
theorem at_S {args : Array Value} {s : State} (h1 : ∀ w ∈ (vx_atS RX0 64 "java/lang/IllegalStateException" ["java/lang/RuntimeException", "java/lang/Exception"]).filter goodWord, w.before args s = true) (hT : ThW s) : ∀ w ∈ (vx_atS RX0 64 "java/lang/IllegalStateException" ["java/lang/RuntimeException", "java/lang/Exception"]), w.before args s = true := vx_hat h1 ng_S (vx_c (va_any rfl hT.1) (vx_c (va_any rfl hT.2.1) (vx_c (va_any rfl hT.2.2.1) (vx_c (va_any rfl hT.2.2.2.2.2) vx_n))))
theorem x_thr {px : Unit → Prop} {BX : String → Unit → State → Prop} {E : String} {s t : State} {H : Heap} {locs : List Loc} (hS : va_S (fun _ => False) s.heap H locs) (h1 : px ()) (h2 : BX E () t) (hs : H.size ≤ t.heap.size) (hq : ∀ q : Nat, q < H.size → t.heap[q]? = H[q]?) : vx_X px BX (fun _ => False) E s t := ⟨(), h1, h2, ⟨Nat.le_trans hS.1 hs, fun q h3 h4 => (hq q (Nat.lt_of_lt_of_le h3 hS.1)).trans (hS.2.1 q h3 h4)⟩⟩
end
section
set_option maxHeartbeats 4000000 in
set_option maxRecDepth 100000 in
/-- tally: how many cells of a part hold v -/
theorem c_X0_tally (l : Launch) (D : va_G) (cI : ClassId) (a n : Nat) (f : Nat → Int32) (x y w h : Nat) (v : Int32) (hw : x + w ≤ 12) (hh : 12 * (y + h) ≤ n) (hn : n ≤ 960) : Met l yX0_tally wsX0_tally ({ frames := 0, cells := 0, slots := 0, locals := 0 } : Room) (va_Pc [.ref a, .int (nI x), .int (nI y), .int (nI w), .int (nI h), .int v] (Pr D [(cI, .int)] [(a, .inl (cI, n, .inl f))] V0)) (va_Qi (S := Unit) (fun (r : Int32) (_ : Unit) => r = nI (ct f (12 * y + x) w v (w * h))) (fun _ _ => True) (fun _ => False)) 0 0 (fun _ => False) := by
  refine Met.ofW (cc := cX0_tally) (maxL := 9) (ret := (some .int)) (by decide) rfl ?_
  intro p e s m args below meth c s₁ B hml hv
  obtain ⟨hargs, hP, hK, hV⟩ := hv
  have hx := B.exec
  have hb := B.bytes
  have hr := B.returns
  have hts := atoms_spec (ws := wsX0_tally) B.pre
  have hown : s.vm.findClass RX0 = some m.cls := findClass_of_methodNamed B.named
  have hlocks := B.notSynchronized
  have hS : va_S (fun _ => False) s.heap s.heap [] := va_S.rf
  have hRf : 0 ≤ (headSpec wsX0_tally ({ frames := 0, cells := 0, slots := 0, locals := 0 } : Room)).room.frames := Nat.le_refl _
  have hRl : 0 ≤ (headSpec wsX0_tally ({ frames := 0, cells := 0, slots := 0, locals := 0 } : Room)).room.locals := Nat.le_refl _
  have hRc : 0 ≤ (headSpec wsX0_tally ({ frames := 0, cells := 0, slots := 0, locals := 0 } : Room)).room.cells := Nat.le_refl _
  have hRs : 0 ≤ (headSpec wsX0_tally ({ frames := 0, cells := 0, slots := 0, locals := 0 } : Room)).room.slots := Nat.le_refl _
  generalize (headSpec wsX0_tally ({ frames := 0, cells := 0, slots := 0, locals := 0 } : Room)).room = R at hRf hRl hRc hRs ⊢
  have hl := lv_entry [.ref a, .int (nI x), .int (nI y), .int (nI w), .int (nI h), .int v] (n := 9) (Nat.le_of_ble_eq_true rfl)
  refine W.eq (show entryFrame m args 9 = _ from by rw [hargs, lg_entry_eq]) ?_
  generalize (lg_sl [.ref a, .int (nI x), .int (nI y), .int (nI w), .int (nI h), .int v] ++ List.replicate (9 - (lg_sl [.ref a, .int (nI x), .int (nI y), .int (nI w), .int (nI h), .int v]).length) Slot.unset).toArray = ls at hl ⊢
  have hl : lv_has ls 9 [(0, .ref a), (1, .int (nI x)), (2, .int (nI y)), (3, .int (nI w)), (4, .int (nI h)), (5, .int v)] := hl
  generalize hQ : MQ _ _ _ _ _ _ _ = Q
  refine lv_iconst (v := nI 0) hx hb dX0_tally_0 (by decide) ?_
  refine lv_istore (lv' := [(6, .int (nI 0)), (0, .ref a), (1, .int (nI x)), (2, .int (nI y)), (3, .int (nI w)), (4, .int (nI h)), (5, .int v)]) hx hb dX0_tally_1 hl (by decide) rfl (fun ls hl => ?_)
  refine lv_iload_n hx hb dX0_tally_3 rfl (lv_at hl 3 rfl) ?_
  refine lv_istore (lv' := [(7, .int (nI y)), (6, .int (nI 0)), (0, .ref a), (1, .int (nI x)), (2, .int (nI y)), (3, .int (nI w)), (4, .int (nI h)), (5, .int v)]) hx hb dX0_tally_4 hl (by decide) rfl (fun ls hl => ?_)
  have L6 : ∀ (fu : Nat) (r : Nat) (k : Nat) (row : Nat) (H : Heap) (locs : List Loc) (ls : Array Slot), h - r < fu → (r ≤ h) → (row = y + r) → (k = ct f (12 * y + x) w v (w * r)) → (k ≤ 12 * r) → va_P D vwCl [(a, .inl (cI, n, .inl f))] H → va_S (fun _ => False) s.heap H locs → lv_has ls 9 [(0, .ref a), (1, .int (nI x)), (2, .int (nI y)), (3, .int (nI w)), (4, .int (nI h)), (5, .int v), (6, .int (nI k)), (7, .int (nI row))] → W p l e R s m args below meth c H locs 0 0 Q (F0 m 6 ls []) := by
    intro fu
    induction fu with
    | zero => intro _ _ _ _ _ _ h; exact absurd h (Nat.not_lt_zero _)
    | succ fu ih6 =>
      intro r k row H locs ls hm6 h1 h2 h3 h3b hP  hS hl
      refine lv_iload hx hb dX0_tally_6 (lv_at hl 7 rfl) ?_
      refine lv_iload_n hx hb dX0_tally_8 rfl (lv_at hl 2 rfl) ?_
      refine lv_iload hx hb dX0_tally_9 (lv_at hl 4 rfl) ?_
      refine nv_iadd hx hb dX0_tally_11 ?_
      refine nv_icmp_ge (tgt := 56) hx hb (by omega) (by omega) dX0_tally_12 (by decide) (fun c_1 => ?_) (fun c_1 => ?_)
      · refine lv_iload hx hb dX0_tally_56 (lv_at hl 6 rfl) ?_
        rw [← hQ]
        exact W.iret (v := nI k) hx hb hr (fun t ht hW => ⟨⟨nI k, (), rfl, (by rw [h3, show r = h by omega]), trivial⟩, hS.F ht⟩) hS.2.2 dX0_tally_58
      · refine lv_iload_n hx hb dX0_tally_15 rfl (lv_at hl 1 rfl) ?_
        refine lv_istore (lv' := [(8, .int (nI x)), (0, .ref a), (1, .int (nI x)), (2, .int (nI y)), (3, .int (nI w)), (4, .int (nI h)), (5, .int v), (6, .int (nI k)), (7, .int (nI row))]) hx hb dX0_tally_16 hl (by decide) rfl (fun ls hl => ?_)
        have L18 : ∀ (fu : Nat) (c2 : Nat) (k2 : Nat) (col : Nat) (H : Heap) (locs : List Loc) (ls : Array Slot), w - c2 < fu → (c2 ≤ w) → (col = x + c2) → (k2 = ct f (12 * y + x) w v (w * r + c2)) → (k2 ≤ 12 * r + c2) → va_P D vwCl [(a, .inl (cI, n, .inl f))] H → va_S (fun _ => False) s.heap H locs → lv_has ls 9 [(0, .ref a), (1, .int (nI x)), (2, .int (nI y)), (3, .int (nI w)), (4, .int (nI h)), (5, .int v), (6, .int (nI k2)), (7, .int (nI row)), (8, .int (nI col))] → W p l e R s m args below meth c H locs 0 0 Q (F0 m 18 ls []) := by
          intro fu
          induction fu with
          | zero => intro _ _ _ _ _ _ h; exact absurd h (Nat.not_lt_zero _)
          | succ fu ih18 =>
            intro c2 k2 col H locs ls hm18 g1 g2 g3 g4 hP  hS hl
            refine lv_iload hx hb dX0_tally_18 (lv_at hl 8 rfl) ?_
            refine lv_iload_n hx hb dX0_tally_20 rfl (lv_at hl 1 rfl) ?_
            refine lv_iload_n hx hb dX0_tally_21 rfl (lv_at hl 3 rfl) ?_
            refine nv_iadd hx hb dX0_tally_22 ?_
            refine nv_icmp_ge (tgt := 50) hx hb (by omega) (by omega) dX0_tally_23 (by decide) (fun c_2 => ?_) (fun c_2 => ?_)
            · refine lv_iinc (k := 7) (v := nI (row + 1)) (lv' := [(7, .int (nI (row + 1))), (0, .ref a), (1, .int (nI x)), (2, .int (nI y)), (3, .int (nI w)), (4, .int (nI h)), (5, .int v), (6, .int (nI k2)), (8, .int (nI col))]) hx hb dX0_tally_50 hl rfl (nI_add row 1) (by decide) rfl (fun ls hl => ?_)
              refine lv_goto (tgt := 6) hx hb dX0_tally_53 (by decide) ?_
              exact ih6 (r + 1) k2 (row + 1) _ _ _ (by omega) (by omega) (by omega) (by rw [g3, show c2 = w by omega]; rfl) (by omega) hP hS (lv_sub hl [1, 2, 3, 4, 5, 6, 7, 0] rfl)
            · refine lv_aload_n hx hb dX0_tally_26 rfl (lv_at hl 0 rfl) ?_
              refine lv_bipush (v := nI 12) hx hb dX0_tally_27 (by decide) ?_
              refine lv_iload hx hb dX0_tally_29 (lv_at hl 7 rfl) ?_
              refine nv_imul hx hb dX0_tally_31 ?_
              refine lv_iload hx hb dX0_tally_32 (lv_at hl 8 rfl) ?_
              refine nv_iadd hx hb dX0_tally_34 ?_
              refine nv_iald hx hb hK hP 0 0 rfl rfl (by omega) (by omega) dX0_tally_35 ?_
              refine lv_iload hx hb dX0_tally_36 (lv_at hl 5 rfl) ?_
              refine lv_icmp_ne (tgt := 44) hx hb dX0_tally_38 (by decide) (fun c_3 => ?_) (fun c_3 => ?_)
              · refine lv_iinc (k := 8) (v := nI (col + 1)) (lv' := [(8, .int (nI (col + 1))), (0, .ref a), (1, .int (nI x)), (2, .int (nI y)), (3, .int (nI w)), (4, .int (nI h)), (5, .int v), (6, .int (nI k2)), (7, .int (nI row))]) hx hb dX0_tally_44 hl rfl (nI_add col 1) (by decide) rfl (fun ls hl => ?_)
                refine lv_goto (tgt := 18) hx hb dX0_tally_47 (by decide) ?_
                exact ih18 (c2 + 1) k2 (col + 1) _ _ _ (by omega) (by omega) (by omega) (by rw [g3]; exact (ct_no (pl_row (by omega)) (by rw [show 12 * y + x + (r * 12 + c2) = 12 * row + col by omega]; exact c_3)).symm) (by omega) hP hS (lv_sub hl [1, 2, 3, 4, 5, 6, 7, 8, 0] rfl)
              · refine lv_iinc (k := 6) (v := nI (k2 + 1)) (lv' := [(6, .int (nI (k2 + 1))), (0, .ref a), (1, .int (nI x)), (2, .int (nI y)), (3, .int (nI w)), (4, .int (nI h)), (5, .int v), (7, .int (nI row)), (8, .int (nI col))]) hx hb dX0_tally_41 hl rfl (nI_add k2 1) (by decide) rfl (fun ls hl => ?_)
                refine lv_iinc (k := 8) (v := nI (col + 1)) (lv' := [(8, .int (nI (col + 1))), (6, .int (nI (k2 + 1))), (0, .ref a), (1, .int (nI x)), (2, .int (nI y)), (3, .int (nI w)), (4, .int (nI h)), (5, .int v), (7, .int (nI row))]) hx hb dX0_tally_44 hl rfl (nI_add col 1) (by decide) rfl (fun ls hl => ?_)
                refine lv_goto (tgt := 18) hx hb dX0_tally_47 (by decide) ?_
                exact ih18 (c2 + 1) (k2 + 1) (col + 1) _ _ _ (by omega) (by omega) (by omega) (by rw [g3]; exact (ct_yes (pl_row (by omega)) (by rw [show 12 * y + x + (r * 12 + c2) = 12 * row + col by omega]; exact c_3)).symm) (by omega) hP hS (lv_sub hl [2, 3, 4, 5, 6, 7, 1, 8, 0] rfl)
        exact L18 _ 0 k x _ _ _ (Nat.lt_succ_self _) (by omega) rfl h3 (by omega) hP hS (lv_sub hl [1, 2, 3, 4, 5, 6, 7, 8, 0] rfl)
  exact L6 _ 0 0 y _ _ _ (Nat.lt_succ_self _) (by omega) rfl rfl (by omega) hP hS (lv_sub hl [2, 3, 4, 5, 6, 7, 1, 0] rfl)
set_option maxHeartbeats 4000000 in
set_option maxRecDepth 100000 in
/-- paint: a part holds v from now on -/
theorem c_X0_paint (l : Launch) (D : va_G) (cI : ClassId) (a n : Nat) (f : Nat → Int32) (x y w h : Nat) (v : Int32) (hw : x + w ≤ 12) (hh : 12 * (y + h) ≤ n) (hn : n ≤ 960) : Met l yX0_paint wsX0_paint ({ frames := 0, cells := 0, slots := 0, locals := 0 } : Room) (va_Pc [.ref a, .int (nI x), .int (nI y), .int (nI w), .int (nI h), .int v] (Pr D [(cI, .int)] [(a, .inl (cI, n, .inl f))] V0)) (va_Qv (S := Unit) (fun _ => True) (fun (_ : Unit) (t : State) => va_P D vwCl [(a, .inl (cI, n, .inl (fl f (12 * y + x) w v (w * h))))] t.heap) (fun q => q = a)) 0 0 (fun q => q = a) := by
  refine Met.ofW (cc := cX0_paint) (maxL := 8) (ret := none) (by decide) rfl ?_
  intro p e s m args below meth c s₁ B hml hv
  obtain ⟨hargs, hP, hK, hV⟩ := hv
  have hx := B.exec
  have hb := B.bytes
  have hr := B.returns
  have hts := atoms_spec (ws := wsX0_paint) B.pre
  have hown : s.vm.findClass RX0 = some m.cls := findClass_of_methodNamed B.named
  have hlocks := B.notSynchronized
  have hS : va_S (fun _ => False) s.heap s.heap [] := va_S.rf
  have hRf : 0 ≤ (headSpec wsX0_paint ({ frames := 0, cells := 0, slots := 0, locals := 0 } : Room)).room.frames := Nat.le_refl _
  have hRl : 0 ≤ (headSpec wsX0_paint ({ frames := 0, cells := 0, slots := 0, locals := 0 } : Room)).room.locals := Nat.le_refl _
  have hRc : 0 ≤ (headSpec wsX0_paint ({ frames := 0, cells := 0, slots := 0, locals := 0 } : Room)).room.cells := Nat.le_refl _
  have hRs : 0 ≤ (headSpec wsX0_paint ({ frames := 0, cells := 0, slots := 0, locals := 0 } : Room)).room.slots := Nat.le_refl _
  generalize (headSpec wsX0_paint ({ frames := 0, cells := 0, slots := 0, locals := 0 } : Room)).room = R at hRf hRl hRc hRs ⊢
  have hl := lv_entry [.ref a, .int (nI x), .int (nI y), .int (nI w), .int (nI h), .int v] (n := 8) (Nat.le_of_ble_eq_true rfl)
  refine W.eq (show entryFrame m args 8 = _ from by rw [hargs, lg_entry_eq]) ?_
  generalize (lg_sl [.ref a, .int (nI x), .int (nI y), .int (nI w), .int (nI h), .int v] ++ List.replicate (8 - (lg_sl [.ref a, .int (nI x), .int (nI y), .int (nI w), .int (nI h), .int v]).length) Slot.unset).toArray = ls at hl ⊢
  have hl : lv_has ls 8 [(0, .ref a), (1, .int (nI x)), (2, .int (nI y)), (3, .int (nI w)), (4, .int (nI h)), (5, .int v)] := hl
  have hD : va_D (fun q => q = a) [(a, .inl (cI, n, .inl f))] := a_D
  generalize hQ : MQ _ _ _ _ _ _ _ = Q
  refine lv_iload_n hx hb dX0_paint_0 rfl (lv_at hl 2 rfl) ?_
  refine lv_istore (lv' := [(6, .int (nI y)), (0, .ref a), (1, .int (nI x)), (2, .int (nI y)), (3, .int (nI w)), (4, .int (nI h)), (5, .int v)]) hx hb dX0_paint_1 hl (by decide) rfl (fun ls hl => ?_)
  have hS : va_S (fun q => q = a) s.heap _ _ := S_mono hS
  have L3 : ∀ (fu : Nat) (r : Nat) (row : Nat) (g : Nat → Int32) (H : Heap) (locs : List Loc) (ls : Array Slot), h - r < fu → (r ≤ h) → (row = y + r) → (g = fl f (12 * y + x) w v (w * r)) → va_P D vwCl [(a, .inl (cI, n, .inl g))] H → va_D (fun q => q = a) [(a, .inl (cI, n, .inl g))] → va_S (fun q => q = a) s.heap H locs → lv_has ls 8 [(0, .ref a), (1, .int (nI x)), (2, .int (nI y)), (3, .int (nI w)), (4, .int (nI h)), (5, .int v), (6, .int (nI row))] → W p l e R s m args below meth c H locs 0 0 Q (F0 m 3 ls []) := by
    intro fu
    induction fu with
    | zero => intro _ _ _ _ _ _ h; exact absurd h (Nat.not_lt_zero _)
    | succ fu ih3 =>
      intro r row g H locs ls hm3 h1 h2 h3 hP hD hS hl
      refine lv_iload hx hb dX0_paint_3 (lv_at hl 6 rfl) ?_
      refine lv_iload_n hx hb dX0_paint_5 rfl (lv_at hl 2 rfl) ?_
      refine lv_iload hx hb dX0_paint_6 (lv_at hl 4 rfl) ?_
      refine nv_iadd hx hb dX0_paint_8 ?_
      refine nv_icmp_ge (tgt := 47) hx hb (by omega) (by omega) dX0_paint_9 (by decide) (fun c_1 => ?_) (fun c_1 => ?_)
      · rw [← hQ]
        exact W.vret hx hb hr (fun t ht hW => ⟨⟨(), rfl, trivial, (by show va_P D vwCl [(a, .inl (cI, n, .inl (fl f (12 * y + x) w v (w * h))))] t.heap; rw [ht, ← show w * r = w * h by rw [show r = h by omega], ← h3]; exact hP)⟩, hS.F ht⟩) hS.2.2 dX0_paint_47
      · refine lv_iload_n hx hb dX0_paint_12 rfl (lv_at hl 1 rfl) ?_
        refine lv_istore (lv' := [(7, .int (nI x)), (0, .ref a), (1, .int (nI x)), (2, .int (nI y)), (3, .int (nI w)), (4, .int (nI h)), (5, .int v), (6, .int (nI row))]) hx hb dX0_paint_13 hl (by decide) rfl (fun ls hl => ?_)
        have L15 : ∀ (fu : Nat) (c2 : Nat) (col : Nat) (g2 : Nat → Int32) (H : Heap) (locs : List Loc) (ls : Array Slot), w - c2 < fu → (c2 ≤ w) → (col = x + c2) → (g2 = fl f (12 * y + x) w v (w * r + c2)) → va_P D vwCl [(a, .inl (cI, n, .inl g2))] H → va_D (fun q => q = a) [(a, .inl (cI, n, .inl g2))] → va_S (fun q => q = a) s.heap H locs → lv_has ls 8 [(0, .ref a), (1, .int (nI x)), (2, .int (nI y)), (3, .int (nI w)), (4, .int (nI h)), (5, .int v), (6, .int (nI row)), (7, .int (nI col))] → W p l e R s m args below meth c H locs 0 0 Q (F0 m 15 ls []) := by
          intro fu
          induction fu with
          | zero => intro _ _ _ _ _ _ h; exact absurd h (Nat.not_lt_zero _)
          | succ fu ih15 =>
            intro c2 col g2 H locs ls hm15 g1 gc g3 hP hD hS hl
            refine lv_iload hx hb dX0_paint_15 (lv_at hl 7 rfl) ?_
            refine lv_iload_n hx hb dX0_paint_17 rfl (lv_at hl 1 rfl) ?_
            refine lv_iload_n hx hb dX0_paint_18 rfl (lv_at hl 3 rfl) ?_
            refine nv_iadd hx hb dX0_paint_19 ?_
            refine nv_icmp_ge (tgt := 41) hx hb (by omega) (by omega) dX0_paint_20 (by decide) (fun c_2 => ?_) (fun c_2 => ?_)
            · refine lv_iinc (k := 6) (v := nI (row + 1)) (lv' := [(6, .int (nI (row + 1))), (0, .ref a), (1, .int (nI x)), (2, .int (nI y)), (3, .int (nI w)), (4, .int (nI h)), (5, .int v), (7, .int (nI col))]) hx hb dX0_paint_41 hl rfl (nI_add row 1) (by decide) rfl (fun ls hl => ?_)
              refine lv_goto (tgt := 3) hx hb dX0_paint_44 (by decide) ?_
              exact ih3 (r + 1) (row + 1) g2 _ _ _ (by omega) (by omega) (by omega) (by rw [g3, show c2 = w by omega]; rfl) hP hD hS (lv_sub hl [1, 2, 3, 4, 5, 6, 0] rfl)
            · refine lv_aload_n hx hb dX0_paint_23 rfl (lv_at hl 0 rfl) ?_
              refine lv_bipush (v := nI 12) hx hb dX0_paint_24 (by decide) ?_
              refine lv_iload hx hb dX0_paint_26 (lv_at hl 6 rfl) ?_
              refine nv_imul hx hb dX0_paint_28 ?_
              refine lv_iload hx hb dX0_paint_29 (lv_at hl 7 rfl) ?_
              refine nv_iadd hx hb dX0_paint_31 ?_
              refine lv_iload hx hb dX0_paint_32 (lv_at hl 5 rfl) ?_
              refine nv_iast hx hb hK hP hD hS 0 0 rfl rfl (by omega) (by omega) dX0_paint_34 (fun H locs hP hD hS => ?_)
              obtain ⟨f_3, ef_3⟩ : ∃ z, z = upd g2 ((12 * row) + col) v := ⟨_, rfl⟩
              rw [← ef_3] at hP hD
              have hP : va_P D vwCl [(a, .inl (cI, n, .inl f_3))] H := hP
              have hD : va_D (fun q => q = a) [(a, .inl (cI, n, .inl f_3))] := hD
              refine lv_iinc (k := 7) (v := nI (col + 1)) (lv' := [(7, .int (nI (col + 1))), (0, .ref a), (1, .int (nI x)), (2, .int (nI y)), (3, .int (nI w)), (4, .int (nI h)), (5, .int v), (6, .int (nI row))]) hx hb dX0_paint_35 hl rfl (nI_add col 1) (by decide) rfl (fun ls hl => ?_)
              refine lv_goto (tgt := 15) hx hb dX0_paint_38 (by decide) ?_
              exact ih15 (c2 + 1) (col + 1) f_3 _ _ _ (by omega) (by omega) (by omega) (by rw [ef_3, g3, show 12 * row + col = pl (12 * y + x) w (w * r + c2) by rw [pl_row (by omega)]; omega]; rfl) hP hD hS (lv_sub hl [1, 2, 3, 4, 5, 6, 7, 0] rfl)
        exact L15 _ 0 x g _ _ _ (Nat.lt_succ_self _) (by omega) rfl h3 hP hD hS (lv_sub hl [1, 2, 3, 4, 5, 6, 7, 0] rfl)
  exact L3 _ 0 y f _ _ _ (Nat.lt_succ_self _) (by omega) rfl rfl hP hD hS (lv_sub hl [1, 2, 3, 4, 5, 6, 0] rfl)
set_option maxHeartbeats 4000000 in
set_option maxRecDepth 100000 in
/-- needSkin: returns just if there is such a skin -/
theorem c_X0_needSkin (l : Launch) (hst : l.stackTraces = false) (D : va_G) (cI cZ cO : ClassId) (ad : Nat → Nat) (n np nq : Nat) (F : Nat → Nat → Int32) (x : Int32) (hn : n ≤ 10) : vx_Met l yX0_needSkin wsX0_needSkin ({ frames := 6, cells := 1, slots := 6, locals := 82 } : Room) (va_Pc [.ref (ad 0), .int x] (Pr D (gT cI cZ cO) (wG cI cZ cO ad n np nq F) (EnvG (fun _ => False)))) (va_Qv (S := Unit) (fun _ => inR x n = true) (fun _ _ => True) (fun _ => False)) (vx_X (S := Unit) (fun _ => True) (fun E (_ : Unit) (_ : State) => E = nX ∧ inR x n = false) (fun _ => False)) 1 6 (fun _ => False) := by
  refine vx_ofW (cc := cX0_needSkin) (maxL := 2) (ret := none) (by decide) rfl ?_
  intro p e s m args below meth c s₁ B hml htab hv
  obtain ⟨hargs, hP, hK, hV⟩ := hv
  have hx := B.exec
  have hb := B.bytes
  have hr := B.returns
  have hts := atoms_spec (ws := wsX0_needSkin) B.pre
  have hown : s.vm.findClass RX0 = some m.cls := findClass_of_methodNamed B.named
  have hlocks := B.notSynchronized
  have hS : va_S (fun _ => False) s.heap s.heap [] := va_S.rf
  have hV0 : EnvG (fun _ => False) s := EnvG.nar hV sub_no
  have hiw : ∀ w ∈ wsX00, w ∈ wsX0_needSkin := (fun _ h => List.mem_cons_of_mem _ (List.mem_append_left _ (List.mem_append_right _ h)))
  have hRf : 6 ≤ (headSpec wsX0_needSkin ({ frames := 6, cells := 1, slots := 6, locals := 82 } : Room)).room.frames := Nat.le_refl _
  have hRl : 82 ≤ (headSpec wsX0_needSkin ({ frames := 6, cells := 1, slots := 6, locals := 82 } : Room)).room.locals := Nat.le_refl _
  have hRc : 1 ≤ (headSpec wsX0_needSkin ({ frames := 6, cells := 1, slots := 6, locals := 82 } : Room)).room.cells := Nat.le_refl _
  have hRs : 6 ≤ (headSpec wsX0_needSkin ({ frames := 6, cells := 1, slots := 6, locals := 82 } : Room)).room.slots := Nat.le_refl _
  generalize (headSpec wsX0_needSkin ({ frames := 6, cells := 1, slots := 6, locals := 82 } : Room)).room = R at hRf hRl hRc hRs ⊢
  have hl := lv_entry [.ref (ad 0), .int x] (n := 2) (Nat.le_of_ble_eq_true rfl)
  refine W.eq (show entryFrame m args 2 = _ from by rw [hargs, lg_entry_eq]) ?_
  generalize (lg_sl [.ref (ad 0), .int x] ++ List.replicate (2 - (lg_sl [.ref (ad 0), .int x]).length) Slot.unset).toArray = ls at hl ⊢
  have hl : lv_has ls 2 [(0, .ref (ad 0)), (1, .int x)] := hl
  generalize hQ : vx_MQ _ _ _ _ _ _ _ _ = Q
  refine lv_iload_n hx hb dX0_needSkin_0 rfl (lv_at hl 1 rfl) ?_
  refine lv_if_lt (tgt := 12) hx hb dX0_needSkin_1 (by decide) (fun c_1 => ?_) (fun c_1 => ?_)
  · obtain ⟨sa9, hsa9⟩ := hV0.2.2.2.2.2.1.2.2.1
    rw [← hQ]
    exact vx_throwS (names := ["java/lang/RuntimeException", "java/lang/Exception"]) hx hb hst hown (by decide +kernel) (by decide +kernel) (hts (.classLink RX0 123 "java/lang/IndexOutOfBoundsException") (by decide +kernel)) (hts (.initialized "java/lang/IndexOutOfBoundsException") (by decide +kernel)) hsa9 (at_X (fun w h9 => hts w ((fun _ h => List.mem_cons_of_mem _ (List.mem_append_right _ h)) w h9)) hV0.2.2.2.2.2.2) gd_X hV0.2.2.2.2.1.1 hV0.2.2.2.2.1.2 hS (hl.1.trans hml.symm) dX0_needSkin_12 dX0_needSkin_15 dX0_needSkin_16 dX0_needSkin_18 dX0_needSkin_21 (fun x hx9 => (htab x hx9).elim) (Nat.lt_of_lt_of_le (Nat.le_of_ble_eq_true rfl) hRf) (Nat.le_trans (Nat.le_of_ble_eq_true rfl) hRl) (Nat.le_trans (Nat.le_of_ble_eq_true rfl) hRc) (Nat.le_trans (Nat.le_of_ble_eq_true rfl) hRs) hlocks (fun t9 _ hs9 hq9 => x_thr hS trivial ⟨rfl, inR_lo c_1⟩ hs9 hq9) (fun z hz => (hS.2.2 z hz).elim) (by omega) (by omega)
  · refine lv_iload_n hx hb dX0_needSkin_4 rfl (lv_at hl 1 rfl) ?_
    refine lv_aload_n hx hb dX0_needSkin_5 rfl (lv_at hl 0 rfl) ?_
    refine va_get (D := D) (ci := 0) (v := .int (nI n)) (C := RX0) (T := TX0) (N := 16) hx hb hts hiw hown hK hP 0 g_at0 rfl 0 (by decide) (hts (.fieldLink RX0 56 "GloveCutters" "skins" "I") (by decide +kernel)) (fun _ h9 => h9) rfl dX0_needSkin_6 ?_
    refine lv_icmp_lt (tgt := 22) hx hb dX0_needSkin_9 (by decide) (fun c_2 => ?_) (fun c_2 => ?_)
    · rw [← hQ]
      refine vx_ret ?_
      refine W.widen (k := 1) (n := 6) (by omega) (by omega) ?_
      exact W.vret hx hb hr (fun t ht hW => ⟨⟨(), rfl, (inR_y c_1 c_2), trivial⟩, hS.F ht⟩) hS.2.2 dX0_needSkin_22
    · obtain ⟨sa9, hsa9⟩ := hV0.2.2.2.2.2.1.2.2.1
      rw [← hQ]
      exact vx_throwS (names := ["java/lang/RuntimeException", "java/lang/Exception"]) hx hb hst hown (by decide +kernel) (by decide +kernel) (hts (.classLink RX0 123 "java/lang/IndexOutOfBoundsException") (by decide +kernel)) (hts (.initialized "java/lang/IndexOutOfBoundsException") (by decide +kernel)) hsa9 (at_X (fun w h9 => hts w ((fun _ h => List.mem_cons_of_mem _ (List.mem_append_right _ h)) w h9)) hV0.2.2.2.2.2.2) gd_X hV0.2.2.2.2.1.1 hV0.2.2.2.2.1.2 hS (hl.1.trans hml.symm) dX0_needSkin_12 dX0_needSkin_15 dX0_needSkin_16 dX0_needSkin_18 dX0_needSkin_21 (fun x hx9 => (htab x hx9).elim) (Nat.lt_of_lt_of_le (Nat.le_of_ble_eq_true rfl) hRf) (Nat.le_trans (Nat.le_of_ble_eq_true rfl) hRl) (Nat.le_trans (Nat.le_of_ble_eq_true rfl) hRc) (Nat.le_trans (Nat.le_of_ble_eq_true rfl) hRs) hlocks (fun t9 _ hs9 hq9 => x_thr hS trivial ⟨rfl, inR_hi c_2⟩ hs9 hq9) (fun z hz => (hS.2.2 z hz).elim) (by omega) (by omega)
set_option maxHeartbeats 4000000 in
set_option maxRecDepth 100000 in
/-- needPair -/
theorem c_X0_needPair (l : Launch) (hst : l.stackTraces = false) (D : va_G) (cI cZ cO : ClassId) (ad : Nat → Nat) (n np nq : Nat) (F : Nat → Nat → Int32) (x : Int32) (hn : nq ≤ 20) : vx_Met l yX0_needPair wsX0_needPair ({ frames := 6, cells := 1, slots := 6, locals := 82 } : Room) (va_Pc [.ref (ad 0), .int x] (Pr D (gT cI cZ cO) (wG cI cZ cO ad n np nq F) (EnvG (fun _ => False)))) (va_Qv (S := Unit) (fun _ => inR x nq = true) (fun _ _ => True) (fun _ => False)) (vx_X (S := Unit) (fun _ => True) (fun E (_ : Unit) (_ : State) => E = nX ∧ inR x nq = false) (fun _ => False)) 1 6 (fun _ => False) := by
  refine vx_ofW (cc := cX0_needPair) (maxL := 2) (ret := none) (by decide) rfl ?_
  intro p e s m args below meth c s₁ B hml htab hv
  obtain ⟨hargs, hP, hK, hV⟩ := hv
  have hx := B.exec
  have hb := B.bytes
  have hr := B.returns
  have hts := atoms_spec (ws := wsX0_needPair) B.pre
  have hown : s.vm.findClass RX0 = some m.cls := findClass_of_methodNamed B.named
  have hlocks := B.notSynchronized
  have hS : va_S (fun _ => False) s.heap s.heap [] := va_S.rf
  have hV0 : EnvG (fun _ => False) s := EnvG.nar hV sub_no
  have hiw : ∀ w ∈ wsX00, w ∈ wsX0_needPair := (fun _ h => List.mem_cons_of_mem _ (List.mem_append_left _ (List.mem_append_right _ h)))
  have hRf : 6 ≤ (headSpec wsX0_needPair ({ frames := 6, cells := 1, slots := 6, locals := 82 } : Room)).room.frames := Nat.le_refl _
  have hRl : 82 ≤ (headSpec wsX0_needPair ({ frames := 6, cells := 1, slots := 6, locals := 82 } : Room)).room.locals := Nat.le_refl _
  have hRc : 1 ≤ (headSpec wsX0_needPair ({ frames := 6, cells := 1, slots := 6, locals := 82 } : Room)).room.cells := Nat.le_refl _
  have hRs : 6 ≤ (headSpec wsX0_needPair ({ frames := 6, cells := 1, slots := 6, locals := 82 } : Room)).room.slots := Nat.le_refl _
  generalize (headSpec wsX0_needPair ({ frames := 6, cells := 1, slots := 6, locals := 82 } : Room)).room = R at hRf hRl hRc hRs ⊢
  have hl := lv_entry [.ref (ad 0), .int x] (n := 2) (Nat.le_of_ble_eq_true rfl)
  refine W.eq (show entryFrame m args 2 = _ from by rw [hargs, lg_entry_eq]) ?_
  generalize (lg_sl [.ref (ad 0), .int x] ++ List.replicate (2 - (lg_sl [.ref (ad 0), .int x]).length) Slot.unset).toArray = ls at hl ⊢
  have hl : lv_has ls 2 [(0, .ref (ad 0)), (1, .int x)] := hl
  generalize hQ : vx_MQ _ _ _ _ _ _ _ _ = Q
  refine lv_iload_n hx hb dX0_needPair_0 rfl (lv_at hl 1 rfl) ?_
  refine lv_if_lt (tgt := 12) hx hb dX0_needPair_1 (by decide) (fun c_1 => ?_) (fun c_1 => ?_)
  · obtain ⟨sa9, hsa9⟩ := hV0.2.2.2.2.2.1.2.2.2.2.2.2.2.2.2.2.2.2.2.2.1
    rw [← hQ]
    exact vx_throwS (names := ["java/lang/RuntimeException", "java/lang/Exception"]) hx hb hst hown (by decide +kernel) (by decide +kernel) (hts (.classLink RX0 123 "java/lang/IndexOutOfBoundsException") (by decide +kernel)) (hts (.initialized "java/lang/IndexOutOfBoundsException") (by decide +kernel)) hsa9 (at_X (fun w h9 => hts w ((fun _ h => List.mem_cons_of_mem _ (List.mem_append_right _ h)) w h9)) hV0.2.2.2.2.2.2) gd_X hV0.2.2.2.2.1.1 hV0.2.2.2.2.1.2 hS (hl.1.trans hml.symm) dX0_needPair_12 dX0_needPair_15 dX0_needPair_16 dX0_needPair_18 dX0_needPair_21 (fun x hx9 => (htab x hx9).elim) (Nat.lt_of_lt_of_le (Nat.le_of_ble_eq_true rfl) hRf) (Nat.le_trans (Nat.le_of_ble_eq_true rfl) hRl) (Nat.le_trans (Nat.le_of_ble_eq_true rfl) hRc) (Nat.le_trans (Nat.le_of_ble_eq_true rfl) hRs) hlocks (fun t9 _ hs9 hq9 => x_thr hS trivial ⟨rfl, inR_lo c_1⟩ hs9 hq9) (fun z hz => (hS.2.2 z hz).elim) (by omega) (by omega)
  · refine lv_iload_n hx hb dX0_needPair_4 rfl (lv_at hl 1 rfl) ?_
    refine lv_aload_n hx hb dX0_needPair_5 rfl (lv_at hl 0 rfl) ?_
    refine va_get (D := D) (ci := 0) (v := .int (nI nq)) (C := RX0) (T := TX0) (N := 16) hx hb hts hiw hown hK hP 0 g_at0 rfl 9 (by decide) (hts (.fieldLink RX0 136 "GloveCutters" "sewn" "I") (by decide +kernel)) (fun _ h9 => h9) rfl dX0_needPair_6 ?_
    refine lv_icmp_lt (tgt := 22) hx hb dX0_needPair_9 (by decide) (fun c_2 => ?_) (fun c_2 => ?_)
    · rw [← hQ]
      refine vx_ret ?_
      refine W.widen (k := 1) (n := 6) (by omega) (by omega) ?_
      exact W.vret hx hb hr (fun t ht hW => ⟨⟨(), rfl, (inR_y c_1 c_2), trivial⟩, hS.F ht⟩) hS.2.2 dX0_needPair_22
    · obtain ⟨sa9, hsa9⟩ := hV0.2.2.2.2.2.1.2.2.2.2.2.2.2.2.2.2.2.2.2.2.1
      rw [← hQ]
      exact vx_throwS (names := ["java/lang/RuntimeException", "java/lang/Exception"]) hx hb hst hown (by decide +kernel) (by decide +kernel) (hts (.classLink RX0 123 "java/lang/IndexOutOfBoundsException") (by decide +kernel)) (hts (.initialized "java/lang/IndexOutOfBoundsException") (by decide +kernel)) hsa9 (at_X (fun w h9 => hts w ((fun _ h => List.mem_cons_of_mem _ (List.mem_append_right _ h)) w h9)) hV0.2.2.2.2.2.2) gd_X hV0.2.2.2.2.1.1 hV0.2.2.2.2.1.2 hS (hl.1.trans hml.symm) dX0_needPair_12 dX0_needPair_15 dX0_needPair_16 dX0_needPair_18 dX0_needPair_21 (fun x hx9 => (htab x hx9).elim) (Nat.lt_of_lt_of_le (Nat.le_of_ble_eq_true rfl) hRf) (Nat.le_trans (Nat.le_of_ble_eq_true rfl) hRl) (Nat.le_trans (Nat.le_of_ble_eq_true rfl) hRc) (Nat.le_trans (Nat.le_of_ble_eq_true rfl) hRs) hlocks (fun t9 _ hs9 hq9 => x_thr hS trivial ⟨rfl, inR_hi c_2⟩ hs9 hq9) (fun z hz => (hS.2.2 z hz).elim) (by omega) (by omega)
set_option maxHeartbeats 4000000 in
set_option maxRecDepth 100000 in
/-- needCell -/
theorem c_X0_needCell (l : Launch) (hst : l.stackTraces = false) (D : va_G) (x y : Int32)  : vx_Met l yX0_needCell wsX0_needCell ({ frames := 6, cells := 1, slots := 6, locals := 82 } : Room) (va_Pc [.int x, .int y] (Pr D [] [] (EnvG (fun _ => False)))) (va_Qv (S := Unit) (fun _ => inR x 12 = true ∧ inR y 8 = true) (fun _ _ => True) (fun _ => False)) (vx_X (S := Unit) (fun _ => True) (fun E (_ : Unit) (_ : State) => E = nX ∧ (inR x 12 && inR y 8) = false) (fun _ => False)) 1 6 (fun _ => False) := by
  refine vx_ofW (cc := cX0_needCell) (maxL := 2) (ret := none) (by decide) rfl ?_
  intro p e s m args below meth c s₁ B hml htab hv
  obtain ⟨hargs, hP, hK, hV⟩ := hv
  have hx := B.exec
  have hb := B.bytes
  have hr := B.returns
  have hts := atoms_spec (ws := wsX0_needCell) B.pre
  have hown : s.vm.findClass RX0 = some m.cls := findClass_of_methodNamed B.named
  have hlocks := B.notSynchronized
  have hS : va_S (fun _ => False) s.heap s.heap [] := va_S.rf
  have hV0 : EnvG (fun _ => False) s := EnvG.nar hV sub_no
  have hRf : 6 ≤ (headSpec wsX0_needCell ({ frames := 6, cells := 1, slots := 6, locals := 82 } : Room)).room.frames := Nat.le_refl _
  have hRl : 82 ≤ (headSpec wsX0_needCell ({ frames := 6, cells := 1, slots := 6, locals := 82 } : Room)).room.locals := Nat.le_refl _
  have hRc : 1 ≤ (headSpec wsX0_needCell ({ frames := 6, cells := 1, slots := 6, locals := 82 } : Room)).room.cells := Nat.le_refl _
  have hRs : 6 ≤ (headSpec wsX0_needCell ({ frames := 6, cells := 1, slots := 6, locals := 82 } : Room)).room.slots := Nat.le_refl _
  generalize (headSpec wsX0_needCell ({ frames := 6, cells := 1, slots := 6, locals := 82 } : Room)).room = R at hRf hRl hRc hRs ⊢
  have hl := lv_entry [.int x, .int y] (n := 2) (Nat.le_of_ble_eq_true rfl)
  refine W.eq (show entryFrame m args 2 = _ from by rw [hargs, lg_entry_eq]) ?_
  generalize (lg_sl [.int x, .int y] ++ List.replicate (2 - (lg_sl [.int x, .int y]).length) Slot.unset).toArray = ls at hl ⊢
  have hl : lv_has ls 2 [(0, .int x), (1, .int y)] := hl
  generalize hQ : vx_MQ _ _ _ _ _ _ _ _ = Q
  refine lv_iload_n hx hb dX0_needCell_0 rfl (lv_at hl 0 rfl) ?_
  refine lv_if_lt (tgt := 20) hx hb dX0_needCell_1 (by decide) (fun c_1 => ?_) (fun c_1 => ?_)
  · obtain ⟨sa9, hsa9⟩ := hV0.2.2.2.2.2.1.2.2.2.1
    rw [← hQ]
    exact vx_throwS (names := ["java/lang/RuntimeException", "java/lang/Exception"]) hx hb hst hown (by decide +kernel) (by decide +kernel) (hts (.classLink RX0 123 "java/lang/IndexOutOfBoundsException") (by decide +kernel)) (hts (.initialized "java/lang/IndexOutOfBoundsException") (by decide +kernel)) hsa9 (at_X (fun w h9 => hts w ((fun _ h => List.mem_cons_of_mem _ (List.mem_append_right _ h)) w h9)) hV0.2.2.2.2.2.2) gd_X hV0.2.2.2.2.1.1 hV0.2.2.2.2.1.2 hS (hl.1.trans hml.symm) dX0_needCell_20 dX0_needCell_23 dX0_needCell_24 dX0_needCell_26 dX0_needCell_29 (fun x hx9 => (htab x hx9).elim) (Nat.lt_of_lt_of_le (Nat.le_of_ble_eq_true rfl) hRf) (Nat.le_trans (Nat.le_of_ble_eq_true rfl) hRl) (Nat.le_trans (Nat.le_of_ble_eq_true rfl) hRc) (Nat.le_trans (Nat.le_of_ble_eq_true rfl) hRs) hlocks (fun t9 _ hs9 hq9 => x_thr hS trivial ⟨rfl, by rw [inR_lo c_1]; rfl⟩ hs9 hq9) (fun z hz => (hS.2.2 z hz).elim) (by omega) (by omega)
  · refine lv_iload_n hx hb dX0_needCell_4 rfl (lv_at hl 0 rfl) ?_
    refine lv_bipush (v := nI 12) hx hb dX0_needCell_5 (by decide) ?_
    refine lv_icmp_ge (tgt := 20) hx hb dX0_needCell_7 (by decide) (fun c_2 => ?_) (fun c_2 => ?_)
    · obtain ⟨sa9, hsa9⟩ := hV0.2.2.2.2.2.1.2.2.2.1
      rw [← hQ]
      exact vx_throwS (names := ["java/lang/RuntimeException", "java/lang/Exception"]) hx hb hst hown (by decide +kernel) (by decide +kernel) (hts (.classLink RX0 123 "java/lang/IndexOutOfBoundsException") (by decide +kernel)) (hts (.initialized "java/lang/IndexOutOfBoundsException") (by decide +kernel)) hsa9 (at_X (fun w h9 => hts w ((fun _ h => List.mem_cons_of_mem _ (List.mem_append_right _ h)) w h9)) hV0.2.2.2.2.2.2) gd_X hV0.2.2.2.2.1.1 hV0.2.2.2.2.1.2 hS (hl.1.trans hml.symm) dX0_needCell_20 dX0_needCell_23 dX0_needCell_24 dX0_needCell_26 dX0_needCell_29 (fun x hx9 => (htab x hx9).elim) (Nat.lt_of_lt_of_le (Nat.le_of_ble_eq_true rfl) hRf) (Nat.le_trans (Nat.le_of_ble_eq_true rfl) hRl) (Nat.le_trans (Nat.le_of_ble_eq_true rfl) hRc) (Nat.le_trans (Nat.le_of_ble_eq_true rfl) hRs) hlocks (fun t9 _ hs9 hq9 => x_thr hS trivial ⟨rfl, by rw [inR_hi (Int32.not_lt.mpr c_2)]; rfl⟩ hs9 hq9) (fun z hz => (hS.2.2 z hz).elim) (by omega) (by omega)
    · refine lv_iload_n hx hb dX0_needCell_10 rfl (lv_at hl 1 rfl) ?_
      refine lv_if_lt (tgt := 20) hx hb dX0_needCell_11 (by decide) (fun c_3 => ?_) (fun c_3 => ?_)
      · obtain ⟨sa9, hsa9⟩ := hV0.2.2.2.2.2.1.2.2.2.1
        rw [← hQ]
        exact vx_throwS (names := ["java/lang/RuntimeException", "java/lang/Exception"]) hx hb hst hown (by decide +kernel) (by decide +kernel) (hts (.classLink RX0 123 "java/lang/IndexOutOfBoundsException") (by decide +kernel)) (hts (.initialized "java/lang/IndexOutOfBoundsException") (by decide +kernel)) hsa9 (at_X (fun w h9 => hts w ((fun _ h => List.mem_cons_of_mem _ (List.mem_append_right _ h)) w h9)) hV0.2.2.2.2.2.2) gd_X hV0.2.2.2.2.1.1 hV0.2.2.2.2.1.2 hS (hl.1.trans hml.symm) dX0_needCell_20 dX0_needCell_23 dX0_needCell_24 dX0_needCell_26 dX0_needCell_29 (fun x hx9 => (htab x hx9).elim) (Nat.lt_of_lt_of_le (Nat.le_of_ble_eq_true rfl) hRf) (Nat.le_trans (Nat.le_of_ble_eq_true rfl) hRl) (Nat.le_trans (Nat.le_of_ble_eq_true rfl) hRc) (Nat.le_trans (Nat.le_of_ble_eq_true rfl) hRs) hlocks (fun t9 _ hs9 hq9 => x_thr hS trivial ⟨rfl, by rw [inR_lo c_3, Bool.and_false]⟩ hs9 hq9) (fun z hz => (hS.2.2 z hz).elim) (by omega) (by omega)
      · refine lv_iload_n hx hb dX0_needCell_14 rfl (lv_at hl 1 rfl) ?_
        refine lv_bipush (v := nI 8) hx hb dX0_needCell_15 (by decide) ?_
        refine lv_icmp_lt (tgt := 30) hx hb dX0_needCell_17 (by decide) (fun c_4 => ?_) (fun c_4 => ?_)
        · rw [← hQ]
          refine vx_ret ?_
          refine W.widen (k := 1) (n := 6) (by omega) (by omega) ?_
          exact W.vret hx hb hr (fun t ht hW => ⟨⟨(), rfl, ⟨inR_y c_1 (Int32.not_le.mp c_2), inR_y c_3 c_4⟩, trivial⟩, hS.F ht⟩) hS.2.2 dX0_needCell_30
        · obtain ⟨sa9, hsa9⟩ := hV0.2.2.2.2.2.1.2.2.2.1
          rw [← hQ]
          exact vx_throwS (names := ["java/lang/RuntimeException", "java/lang/Exception"]) hx hb hst hown (by decide +kernel) (by decide +kernel) (hts (.classLink RX0 123 "java/lang/IndexOutOfBoundsException") (by decide +kernel)) (hts (.initialized "java/lang/IndexOutOfBoundsException") (by decide +kernel)) hsa9 (at_X (fun w h9 => hts w ((fun _ h => List.mem_cons_of_mem _ (List.mem_append_right _ h)) w h9)) hV0.2.2.2.2.2.2) gd_X hV0.2.2.2.2.1.1 hV0.2.2.2.2.1.2 hS (hl.1.trans hml.symm) dX0_needCell_20 dX0_needCell_23 dX0_needCell_24 dX0_needCell_26 dX0_needCell_29 (fun x hx9 => (htab x hx9).elim) (Nat.lt_of_lt_of_le (Nat.le_of_ble_eq_true rfl) hRf) (Nat.le_trans (Nat.le_of_ble_eq_true rfl) hRl) (Nat.le_trans (Nat.le_of_ble_eq_true rfl) hRc) (Nat.le_trans (Nat.le_of_ble_eq_true rfl) hRs) hlocks (fun t9 _ hs9 hq9 => x_thr hS trivial ⟨rfl, by rw [inR_hi c_4, Bool.and_false]⟩ hs9 hq9) (fun z hz => (hS.2.2 z hz).elim) (by omega) (by omega)
set_option maxHeartbeats 4000000 in
set_option maxRecDepth 100000 in
/-- needWhat -/
theorem c_X0_needWhat (l : Launch) (hst : l.stackTraces = false) (D : va_G) (x : Int32) (k : Nat)  : vx_Met l yX0_needWhat wsX0_needWhat ({ frames := 6, cells := 1, slots := 6, locals := 82 } : Room) (va_Pc [.int x, .int (nI k)] (Pr D [] [] (EnvG (fun _ => False)))) (va_Qv (S := Unit) (fun _ => inR x k = true) (fun _ _ => True) (fun _ => False)) (vx_X (S := Unit) (fun _ => True) (fun E (_ : Unit) (_ : State) => E = nX ∧ inR x k = false) (fun _ => False)) 1 6 (fun _ => False) := by
  refine vx_ofW (cc := cX0_needWhat) (maxL := 2) (ret := none) (by decide) rfl ?_
  intro p e s m args below meth c s₁ B hml htab hv
  obtain ⟨hargs, hP, hK, hV⟩ := hv
  have hx := B.exec
  have hb := B.bytes
  have hr := B.returns
  have hts := atoms_spec (ws := wsX0_needWhat) B.pre
  have hown : s.vm.findClass RX0 = some m.cls := findClass_of_methodNamed B.named
  have hlocks := B.notSynchronized
  have hS : va_S (fun _ => False) s.heap s.heap [] := va_S.rf
  have hV0 : EnvG (fun _ => False) s := EnvG.nar hV sub_no
  have hRf : 6 ≤ (headSpec wsX0_needWhat ({ frames := 6, cells := 1, slots := 6, locals := 82 } : Room)).room.frames := Nat.le_refl _
  have hRl : 82 ≤ (headSpec wsX0_needWhat ({ frames := 6, cells := 1, slots := 6, locals := 82 } : Room)).room.locals := Nat.le_refl _
  have hRc : 1 ≤ (headSpec wsX0_needWhat ({ frames := 6, cells := 1, slots := 6, locals := 82 } : Room)).room.cells := Nat.le_refl _
  have hRs : 6 ≤ (headSpec wsX0_needWhat ({ frames := 6, cells := 1, slots := 6, locals := 82 } : Room)).room.slots := Nat.le_refl _
  generalize (headSpec wsX0_needWhat ({ frames := 6, cells := 1, slots := 6, locals := 82 } : Room)).room = R at hRf hRl hRc hRs ⊢
  have hl := lv_entry [.int x, .int (nI k)] (n := 2) (Nat.le_of_ble_eq_true rfl)
  refine W.eq (show entryFrame m args 2 = _ from by rw [hargs, lg_entry_eq]) ?_
  generalize (lg_sl [.int x, .int (nI k)] ++ List.replicate (2 - (lg_sl [.int x, .int (nI k)]).length) Slot.unset).toArray = ls at hl ⊢
  have hl : lv_has ls 2 [(0, .int x), (1, .int (nI k))] := hl
  generalize hQ : vx_MQ _ _ _ _ _ _ _ _ = Q
  refine lv_iload_n hx hb dX0_needWhat_0 rfl (lv_at hl 0 rfl) ?_
  refine lv_if_lt (tgt := 9) hx hb dX0_needWhat_1 (by decide) (fun c_1 => ?_) (fun c_1 => ?_)
  · obtain ⟨sa9, hsa9⟩ := hV0.2.2.2.2.2.1.2.2.2.2.2.2.2.1
    rw [← hQ]
    exact vx_throwS (names := ["java/lang/RuntimeException", "java/lang/Exception"]) hx hb hst hown (by decide +kernel) (by decide +kernel) (hts (.classLink RX0 123 "java/lang/IndexOutOfBoundsException") (by decide +kernel)) (hts (.initialized "java/lang/IndexOutOfBoundsException") (by decide +kernel)) hsa9 (at_X (fun w h9 => hts w ((fun _ h => List.mem_cons_of_mem _ (List.mem_append_right _ h)) w h9)) hV0.2.2.2.2.2.2) gd_X hV0.2.2.2.2.1.1 hV0.2.2.2.2.1.2 hS (hl.1.trans hml.symm) dX0_needWhat_9 dX0_needWhat_12 dX0_needWhat_13 dX0_needWhat_15 dX0_needWhat_18 (fun x hx9 => (htab x hx9).elim) (Nat.lt_of_lt_of_le (Nat.le_of_ble_eq_true rfl) hRf) (Nat.le_trans (Nat.le_of_ble_eq_true rfl) hRl) (Nat.le_trans (Nat.le_of_ble_eq_true rfl) hRc) (Nat.le_trans (Nat.le_of_ble_eq_true rfl) hRs) hlocks (fun t9 _ hs9 hq9 => x_thr hS trivial ⟨rfl, inR_lo c_1⟩ hs9 hq9) (fun z hz => (hS.2.2 z hz).elim) (by omega) (by omega)
  · refine lv_iload_n hx hb dX0_needWhat_4 rfl (lv_at hl 0 rfl) ?_
    refine lv_iload_n hx hb dX0_needWhat_5 rfl (lv_at hl 1 rfl) ?_
    refine lv_icmp_lt (tgt := 19) hx hb dX0_needWhat_6 (by decide) (fun c_2 => ?_) (fun c_2 => ?_)
    · rw [← hQ]
      refine vx_ret ?_
      refine W.widen (k := 1) (n := 6) (by omega) (by omega) ?_
      exact W.vret hx hb hr (fun t ht hW => ⟨⟨(), rfl, (inR_y c_1 c_2), trivial⟩, hS.F ht⟩) hS.2.2 dX0_needWhat_19
    · obtain ⟨sa9, hsa9⟩ := hV0.2.2.2.2.2.1.2.2.2.2.2.2.2.1
      rw [← hQ]
      exact vx_throwS (names := ["java/lang/RuntimeException", "java/lang/Exception"]) hx hb hst hown (by decide +kernel) (by decide +kernel) (hts (.classLink RX0 123 "java/lang/IndexOutOfBoundsException") (by decide +kernel)) (hts (.initialized "java/lang/IndexOutOfBoundsException") (by decide +kernel)) hsa9 (at_X (fun w h9 => hts w ((fun _ h => List.mem_cons_of_mem _ (List.mem_append_right _ h)) w h9)) hV0.2.2.2.2.2.2) gd_X hV0.2.2.2.2.1.1 hV0.2.2.2.2.1.2 hS (hl.1.trans hml.symm) dX0_needWhat_9 dX0_needWhat_12 dX0_needWhat_13 dX0_needWhat_15 dX0_needWhat_18 (fun x hx9 => (htab x hx9).elim) (Nat.lt_of_lt_of_le (Nat.le_of_ble_eq_true rfl) hRf) (Nat.le_trans (Nat.le_of_ble_eq_true rfl) hRl) (Nat.le_trans (Nat.le_of_ble_eq_true rfl) hRc) (Nat.le_trans (Nat.le_of_ble_eq_true rfl) hRs) hlocks (fun t9 _ hs9 hq9 => x_thr hS trivial ⟨rfl, inR_hi c_2⟩ hs9 hq9) (fun z hz => (hS.2.2 z hz).elim) (by omega) (by omega)
set_option maxHeartbeats 4000000 in
set_option maxRecDepth 100000 in
/-- needColour -/
theorem c_X0_needColour (l : Launch) (hst : l.stackTraces = false) (D : va_G) (x : Int32)  : vx_Met l yX0_needColour wsX0_needColour ({ frames := 6, cells := 1, slots := 6, locals := 82 } : Room) (va_Pc [.int x] (Pr D [] [] (EnvG (fun _ => False)))) (va_Qv (S := Unit) (fun _ => inR x 6 = true) (fun _ _ => True) (fun _ => False)) (vx_X (S := Unit) (fun _ => True) (fun E (_ : Unit) (_ : State) => E = nA ∧ inR x 6 = false) (fun _ => False)) 1 6 (fun _ => False) := by
  refine vx_ofW (cc := cX0_needColour) (maxL := 1) (ret := none) (by decide) rfl ?_
  intro p e s m args below meth c s₁ B hml htab hv
  obtain ⟨hargs, hP, hK, hV⟩ := hv
  have hx := B.exec
  have hb := B.bytes
  have hr := B.returns
  have hts := atoms_spec (ws := wsX0_needColour) B.pre
  have hown : s.vm.findClass RX0 = some m.cls := findClass_of_methodNamed B.named
  have hlocks := B.notSynchronized
  have hS : va_S (fun _ => False) s.heap s.heap [] := va_S.rf
  have hV0 : EnvG (fun _ => False) s := EnvG.nar hV sub_no
  have hRf : 6 ≤ (headSpec wsX0_needColour ({ frames := 6, cells := 1, slots := 6, locals := 82 } : Room)).room.frames := Nat.le_refl _
  have hRl : 82 ≤ (headSpec wsX0_needColour ({ frames := 6, cells := 1, slots := 6, locals := 82 } : Room)).room.locals := Nat.le_refl _
  have hRc : 1 ≤ (headSpec wsX0_needColour ({ frames := 6, cells := 1, slots := 6, locals := 82 } : Room)).room.cells := Nat.le_refl _
  have hRs : 6 ≤ (headSpec wsX0_needColour ({ frames := 6, cells := 1, slots := 6, locals := 82 } : Room)).room.slots := Nat.le_refl _
  generalize (headSpec wsX0_needColour ({ frames := 6, cells := 1, slots := 6, locals := 82 } : Room)).room = R at hRf hRl hRc hRs ⊢
  have hl := lv_entry [.int x] (n := 1) (Nat.le_of_ble_eq_true rfl)
  refine W.eq (show entryFrame m args 1 = _ from by rw [hargs, lg_entry_eq]) ?_
  generalize (lg_sl [.int x] ++ List.replicate (1 - (lg_sl [.int x]).length) Slot.unset).toArray = ls at hl ⊢
  have hl : lv_has ls 1 [(0, .int x)] := hl
  generalize hQ : vx_MQ _ _ _ _ _ _ _ _ = Q
  refine lv_iload_n hx hb dX0_needColour_0 rfl (lv_at hl 0 rfl) ?_
  refine lv_if_lt (tgt := 10) hx hb dX0_needColour_1 (by decide) (fun c_1 => ?_) (fun c_1 => ?_)
  · obtain ⟨sa9, hsa9⟩ := hV0.2.2.2.2.2.1.1
    rw [← hQ]
    exact vx_throwS (names := ["java/lang/RuntimeException", "java/lang/Exception"]) hx hb hst hown (by decide +kernel) (by decide +kernel) (hts (.classLink RX0 74 "java/lang/IllegalArgumentException") (by decide +kernel)) (hts (.initialized "java/lang/IllegalArgumentException") (by decide +kernel)) hsa9 (at_A (fun w h9 => hts w ((fun _ h => List.mem_cons_of_mem _ (List.mem_append_right _ h)) w h9)) hV0.2.2.2.2.2.2) gd_A hV0.2.2.2.2.1.1 hV0.2.2.2.2.1.2 hS (hl.1.trans hml.symm) dX0_needColour_10 dX0_needColour_13 dX0_needColour_14 dX0_needColour_16 dX0_needColour_19 (fun x hx9 => (htab x hx9).elim) (Nat.lt_of_lt_of_le (Nat.le_of_ble_eq_true rfl) hRf) (Nat.le_trans (Nat.le_of_ble_eq_true rfl) hRl) (Nat.le_trans (Nat.le_of_ble_eq_true rfl) hRc) (Nat.le_trans (Nat.le_of_ble_eq_true rfl) hRs) hlocks (fun t9 _ hs9 hq9 => x_thr hS trivial ⟨rfl, inR_lo c_1⟩ hs9 hq9) (fun z hz => (hS.2.2 z hz).elim) (by omega) (by omega)
  · refine lv_iload_n hx hb dX0_needColour_4 rfl (lv_at hl 0 rfl) ?_
    refine lv_bipush (v := nI 6) hx hb dX0_needColour_5 (by decide) ?_
    refine lv_icmp_lt (tgt := 20) hx hb dX0_needColour_7 (by decide) (fun c_2 => ?_) (fun c_2 => ?_)
    · rw [← hQ]
      refine vx_ret ?_
      refine W.widen (k := 1) (n := 6) (by omega) (by omega) ?_
      exact W.vret hx hb hr (fun t ht hW => ⟨⟨(), rfl, (inR_y c_1 c_2), trivial⟩, hS.F ht⟩) hS.2.2 dX0_needColour_20
    · obtain ⟨sa9, hsa9⟩ := hV0.2.2.2.2.2.1.1
      rw [← hQ]
      exact vx_throwS (names := ["java/lang/RuntimeException", "java/lang/Exception"]) hx hb hst hown (by decide +kernel) (by decide +kernel) (hts (.classLink RX0 74 "java/lang/IllegalArgumentException") (by decide +kernel)) (hts (.initialized "java/lang/IllegalArgumentException") (by decide +kernel)) hsa9 (at_A (fun w h9 => hts w ((fun _ h => List.mem_cons_of_mem _ (List.mem_append_right _ h)) w h9)) hV0.2.2.2.2.2.2) gd_A hV0.2.2.2.2.1.1 hV0.2.2.2.2.1.2 hS (hl.1.trans hml.symm) dX0_needColour_10 dX0_needColour_13 dX0_needColour_14 dX0_needColour_16 dX0_needColour_19 (fun x hx9 => (htab x hx9).elim) (Nat.lt_of_lt_of_le (Nat.le_of_ble_eq_true rfl) hRf) (Nat.le_trans (Nat.le_of_ble_eq_true rfl) hRl) (Nat.le_trans (Nat.le_of_ble_eq_true rfl) hRc) (Nat.le_trans (Nat.le_of_ble_eq_true rfl) hRs) hlocks (fun t9 _ hs9 hq9 => x_thr hS trivial ⟨rfl, inR_hi c_2⟩ hs9 hq9) (fun z hz => (hS.2.2 z hz).elim) (by omega) (by omega)
set_option maxHeartbeats 4000000 in
set_option maxRecDepth 100000 in
/-- needKind -/
theorem c_X0_needKind (l : Launch) (hst : l.stackTraces = false) (D : va_G) (x : Int32)  : vx_Met l yX0_needKind wsX0_needKind ({ frames := 6, cells := 1, slots := 6, locals := 82 } : Room) (va_Pc [.int x] (Pr D [] [] (EnvG (fun _ => False)))) (va_Qv (S := Unit) (fun _ => inR x 4 = true) (fun _ _ => True) (fun _ => False)) (vx_X (S := Unit) (fun _ => True) (fun E (_ : Unit) (_ : State) => E = nA ∧ inR x 4 = false) (fun _ => False)) 1 6 (fun _ => False) := by
  refine vx_ofW (cc := cX0_needKind) (maxL := 1) (ret := none) (by decide) rfl ?_
  intro p e s m args below meth c s₁ B hml htab hv
  obtain ⟨hargs, hP, hK, hV⟩ := hv
  have hx := B.exec
  have hb := B.bytes
  have hr := B.returns
  have hts := atoms_spec (ws := wsX0_needKind) B.pre
  have hown : s.vm.findClass RX0 = some m.cls := findClass_of_methodNamed B.named
  have hlocks := B.notSynchronized
  have hS : va_S (fun _ => False) s.heap s.heap [] := va_S.rf
  have hV0 : EnvG (fun _ => False) s := EnvG.nar hV sub_no
  have hRf : 6 ≤ (headSpec wsX0_needKind ({ frames := 6, cells := 1, slots := 6, locals := 82 } : Room)).room.frames := Nat.le_refl _
  have hRl : 82 ≤ (headSpec wsX0_needKind ({ frames := 6, cells := 1, slots := 6, locals := 82 } : Room)).room.locals := Nat.le_refl _
  have hRc : 1 ≤ (headSpec wsX0_needKind ({ frames := 6, cells := 1, slots := 6, locals := 82 } : Room)).room.cells := Nat.le_refl _
  have hRs : 6 ≤ (headSpec wsX0_needKind ({ frames := 6, cells := 1, slots := 6, locals := 82 } : Room)).room.slots := Nat.le_refl _
  generalize (headSpec wsX0_needKind ({ frames := 6, cells := 1, slots := 6, locals := 82 } : Room)).room = R at hRf hRl hRc hRs ⊢
  have hl := lv_entry [.int x] (n := 1) (Nat.le_of_ble_eq_true rfl)
  refine W.eq (show entryFrame m args 1 = _ from by rw [hargs, lg_entry_eq]) ?_
  generalize (lg_sl [.int x] ++ List.replicate (1 - (lg_sl [.int x]).length) Slot.unset).toArray = ls at hl ⊢
  have hl : lv_has ls 1 [(0, .int x)] := hl
  generalize hQ : vx_MQ _ _ _ _ _ _ _ _ = Q
  refine lv_iload_n hx hb dX0_needKind_0 rfl (lv_at hl 0 rfl) ?_
  refine lv_if_lt (tgt := 9) hx hb dX0_needKind_1 (by decide) (fun c_1 => ?_) (fun c_1 => ?_)
  · obtain ⟨sa9, hsa9⟩ := hV0.2.2.2.2.2.1.2.2.2.2.2.2.2.2.1
    rw [← hQ]
    exact vx_throwS (names := ["java/lang/RuntimeException", "java/lang/Exception"]) hx hb hst hown (by decide +kernel) (by decide +kernel) (hts (.classLink RX0 74 "java/lang/IllegalArgumentException") (by decide +kernel)) (hts (.initialized "java/lang/IllegalArgumentException") (by decide +kernel)) hsa9 (at_A (fun w h9 => hts w ((fun _ h => List.mem_cons_of_mem _ (List.mem_append_right _ h)) w h9)) hV0.2.2.2.2.2.2) gd_A hV0.2.2.2.2.1.1 hV0.2.2.2.2.1.2 hS (hl.1.trans hml.symm) dX0_needKind_9 dX0_needKind_12 dX0_needKind_13 dX0_needKind_15 dX0_needKind_18 (fun x hx9 => (htab x hx9).elim) (Nat.lt_of_lt_of_le (Nat.le_of_ble_eq_true rfl) hRf) (Nat.le_trans (Nat.le_of_ble_eq_true rfl) hRl) (Nat.le_trans (Nat.le_of_ble_eq_true rfl) hRc) (Nat.le_trans (Nat.le_of_ble_eq_true rfl) hRs) hlocks (fun t9 _ hs9 hq9 => x_thr hS trivial ⟨rfl, inR_lo c_1⟩ hs9 hq9) (fun z hz => (hS.2.2 z hz).elim) (by omega) (by omega)
  · refine lv_iload_n hx hb dX0_needKind_4 rfl (lv_at hl 0 rfl) ?_
    refine lv_iconst (v := nI 4) hx hb dX0_needKind_5 (by decide) ?_
    refine lv_icmp_lt (tgt := 19) hx hb dX0_needKind_6 (by decide) (fun c_2 => ?_) (fun c_2 => ?_)
    · rw [← hQ]
      refine vx_ret ?_
      refine W.widen (k := 1) (n := 6) (by omega) (by omega) ?_
      exact W.vret hx hb hr (fun t ht hW => ⟨⟨(), rfl, (inR_y c_1 c_2), trivial⟩, hS.F ht⟩) hS.2.2 dX0_needKind_19
    · obtain ⟨sa9, hsa9⟩ := hV0.2.2.2.2.2.1.2.2.2.2.2.2.2.2.1
      rw [← hQ]
      exact vx_throwS (names := ["java/lang/RuntimeException", "java/lang/Exception"]) hx hb hst hown (by decide +kernel) (by decide +kernel) (hts (.classLink RX0 74 "java/lang/IllegalArgumentException") (by decide +kernel)) (hts (.initialized "java/lang/IllegalArgumentException") (by decide +kernel)) hsa9 (at_A (fun w h9 => hts w ((fun _ h => List.mem_cons_of_mem _ (List.mem_append_right _ h)) w h9)) hV0.2.2.2.2.2.2) gd_A hV0.2.2.2.2.1.1 hV0.2.2.2.2.1.2 hS (hl.1.trans hml.symm) dX0_needKind_9 dX0_needKind_12 dX0_needKind_13 dX0_needKind_15 dX0_needKind_18 (fun x hx9 => (htab x hx9).elim) (Nat.lt_of_lt_of_le (Nat.le_of_ble_eq_true rfl) hRf) (Nat.le_trans (Nat.le_of_ble_eq_true rfl) hRl) (Nat.le_trans (Nat.le_of_ble_eq_true rfl) hRc) (Nat.le_trans (Nat.le_of_ble_eq_true rfl) hRs) hlocks (fun t9 _ hs9 hq9 => x_thr hS trivial ⟨rfl, inR_hi c_2⟩ hs9 hq9) (fun z hz => (hS.2.2 z hz).elim) (by omega) (by omega)
end
section
/-! what both sides tell, as functions of the state: n skins, np pieces, nq pairs, contents F -/
theorem beq_t {x y : Int32} (h : x = y) : (x == y) = true := by rw [h]; exact beq_self_eq_true y
theorem beq_f {x y : Int32} (h : ¬ x = y) : (x == y) = false := beq_false_of_ne h
def tS (F : Nat → Nat → Int32) (s : Nat) (v : Int32) : Nat := ct (F (14 + s)) 0 12 v 96
theorem tS_le (F : Nat → Nat → Int32) (s : Nat) (v : Int32) : tS F s v ≤ 96 := ct_le _ _ _ _ _
def skT (F : Nat → Nat → Int32) (s w : Nat) : Int32 := if w = 0 then F 1 s else if w = 1 then nI (tS F s (nI 0)) else if w = 2 then nI (tS F s (nI 1)) else if w = 3 then nI (tS F s (nI 2)) else if w = 4 then nI (tS F s (nI 3)) else F 2 s
def pcT (F : Nat → Nat → Int32) (p w : Nat) : Int32 := F (4 + w) p
def prT (F : Nat → Nat → Int32) (q w : Nat) : Int32 := F (8 + w) q
def pAt (F : Nat → Nat → Int32) (np : Nat) (v : Int32) : Nat := cn (fun p => F 6 p == v) np
def pUse (F : Nat → Nat → Int32) (nq : Nat) : Nat := cn (fun q => F 12 q == 0) nq
theorem pAt_le (F : Nat → Nat → Int32) (np : Nat) (v : Int32) : pAt F np v ≤ np := cn_le _ _
theorem pUse_le (F : Nat → Nat → Int32) (nq : Nat) : pUse F nq ≤ nq := cn_le _ _
theorem pAt_2 (F : Nat → Nat → Int32) : ∀ np : Nat, pAt F np (-1) + pAt F np (-2) ≤ np
  | 0 => Nat.le_refl _
  | k + 1 => by
    have h := pAt_2 F k
    unfold pAt at h ⊢
    rw [cn_s, cn_s]
    by_cases h1 : F 6 k = -1
    · rw [beq_t h1, beq_f (show ¬ F 6 k = -2 by rw [h1]; decide)]
      show _ + 1 + (_ + 0) ≤ _
      omega
    · rw [beq_f h1]
      show _ + 0 + (_ + _) ≤ _
      split <;> omega
def cnT (n np nq : Nat) (F : Nat → Nat → Int32) (w : Nat) : Int32 := if w = 0 then nI n else if w = 1 then nI np else if w = 2 then nI (pAt F np (-1)) else if w = 3 then nI (np - pAt F np (-1) - pAt F np (-2)) else if w = 4 then nI (pAt F np (-2)) else if w = 5 then nI nq else nI (pUse F nq)
def wd (kd : Nat) (tb : Bool) : Nat := if tb = true then kH kd else kW kd
def hg (kd : Nat) (tb : Bool) : Nat := if tb = true then kW kd else kH kd
theorem wd_le (kd : Nat) (tb : Bool) : wd kd tb ≤ 4 ∧ 1 ≤ wd kd tb := by
  have h1 := kW_le kd
  have h2 := kH_le kd
  unfold wd
  split <;> omega
theorem hg_le (kd : Nat) (tb : Bool) : hg kd tb ≤ 4 ∧ 1 ≤ hg kd tb := by
  have h1 := kW_le kd
  have h2 := kH_le kd
  unfold hg
  split <;> omega
/-- whether a piece can be cut at x, y of a skin whose cells are f -/
def fitB (f : Nat → Int32) (kd : Nat) (tb : Bool) (x y : Nat) : Bool := decide (x + wd kd tb ≤ 12) && (decide (y + hg kd tb ≤ 8) && (decide (ct f (12 * y + x) (wd kd tb) (nI 2) (wd kd tb * hg kd tb) = 0) && (decide (ct f (12 * y + x) (wd kd tb) (nI 3) (wd kd tb * hg kd tb) = 0) && decide (ct f (12 * y + x) (wd kd tb) (nI 1) (wd kd tb * hg kd tb) ≤ kT kd))))
def fitA (f : Nat → Int32) (kd : Nat) (tb : Bool) (k : Nat) : Bool := fitB f kd tb (k % 12) (k / 12)
/-- the first of k numbers from i on that has P, or -1 -/
def fI (P : Nat → Bool) : Nat → Nat → Int32 | _, 0 => -1 | i, k + 1 => if P i then nI i else fI P (i + 1) k
theorem fI_y {P : Nat → Bool} {i n : Nat} (hi : i < n) (h : P i = true) : fI P i (n - i) = nI i := by
  obtain ⟨k, hk⟩ : ∃ k, n - i = k + 1 := ⟨n - i - 1, by omega⟩
  rw [hk, fI, if_pos h]
theorem fI_n {P : Nat → Bool} {i n : Nat} (hi : i < n) (h : P i = false) : fI P i (n - i) = fI P (i + 1) (n - (i + 1)) := by
  obtain ⟨k, hk⟩ : ∃ k, n - i = k + 1 := ⟨n - i - 1, by omega⟩
  rw [hk, fI, if_neg (by rw [h]; decide), show n - (i + 1) = k by omega]
theorem fI_e {P : Nat → Bool} {i n : Nat} (h : i = n) : fI P i (n - i) = -1 := by
  subst h
  rw [Nat.sub_self]; rfl
theorem fI_spec (P : Nat → Bool) : ∀ (k i : Nat), (fI P i k = -1 ∧ ∀ j, i ≤ j → j < i + k → P j = false) ∨ ∃ j, i ≤ j ∧ j < i + k ∧ fI P i k = nI j ∧ P j = true ∧ ∀ m, i ≤ m → m < j → P m = false
  | 0, i => Or.inl ⟨rfl, fun j h1 h2 => by omega⟩
  | k + 1, i => by
    rw [fI]
    by_cases h : P i = true
    · rw [if_pos h]
      exact Or.inr ⟨i, Nat.le_refl _, by omega, rfl, h, fun m h1 h2 => by omega⟩
    · rw [if_neg h]
      have hf : P i = false := by cases hq : P i; rfl; exact absurd hq h
      rcases fI_spec P k (i + 1) with ⟨h1, h2⟩ | ⟨j, h1, h2, h3, h4, h5⟩
      · exact Or.inl ⟨h1, fun j a b => by
          rcases Nat.eq_or_lt_of_le a with q | q
          · rw [← q]; exact hf
          · exact h2 j q (by omega)⟩
      · exact Or.inr ⟨j, by omega, by omega, h3, h4, fun m a b => by
          rcases Nat.eq_or_lt_of_le a with q | q
          · rw [← q]; exact hf
          · exact h5 m q b⟩
/-- whether piece p is free, of this kind, from a skin of this colour -/
def isF (F : Nat → Nat → Int32) (c kd : Int32) (p : Nat) : Bool := F 6 p == -1 && (F 5 p == kd && F 1 (F 4 p).toNatClampNeg == c)
def fC (F : Nat → Nat → Int32) (np : Nat) (c kd : Int32) : Nat := cn (isF F c kd) np
def isT (F : Nat → Nat → Int32) (s p : Nat) : Bool := F 6 p == -1 && (F 5 p == 0 && F 4 p == nI s)
def fT (F : Nat → Nat → Int32) (np s : Nat) : Nat := cn (isT F s) np
theorem fC_le (F : Nat → Nat → Int32) (np : Nat) (c kd : Int32) : fC F np c kd ≤ np := cn_le _ _
theorem fT_le (F : Nat → Nat → Int32) (np s : Nat) : fT F np s ≤ np := cn_le _ _
theorem isF_t {F : Nat → Nat → Int32} {c kd : Int32} {p k : Nat} (h1 : F 6 p = -1) (h2 : F 5 p = kd) (e : F 4 p = nI k) (hk : k < 2 ^ 31) (h3 : F 1 k = c) : isF F c kd p = true := by
  unfold isF
  rw [e, nI_clamp hk, beq_t h1, beq_t h2, beq_t h3]; rfl
theorem isF_1 {F : Nat → Nat → Int32} {c kd : Int32} {p : Nat} (h1 : ¬ F 6 p = -1) : isF F c kd p = false := by
  unfold isF
  rw [beq_f h1]; rfl
theorem isF_2 {F : Nat → Nat → Int32} {c kd : Int32} {p : Nat} (h1 : ¬ F 5 p = kd) : isF F c kd p = false := by
  unfold isF
  rw [beq_f h1, Bool.false_and, Bool.and_false]
theorem isF_3 {F : Nat → Nat → Int32} {c kd : Int32} {p k : Nat} (e : F 4 p = nI k) (hk : k < 2 ^ 31) (h3 : ¬ F 1 k = c) : isF F c kd p = false := by
  unfold isF
  rw [e, nI_clamp hk, beq_f h3, Bool.and_false, Bool.and_false]
theorem isT_t {F : Nat → Nat → Int32} {s p : Nat} (h1 : F 6 p = -1) (h2 : F 5 p = 0) (h3 : F 4 p = nI s) : isT F s p = true := by
  unfold isT
  rw [beq_t h1, beq_t h2, beq_t h3]; rfl
theorem isT_1 {F : Nat → Nat → Int32} {s p : Nat} (h1 : ¬ F 6 p = -1) : isT F s p = false := by
  unfold isT
  rw [beq_f h1]; rfl
theorem isT_2 {F : Nat → Nat → Int32} {s p : Nat} (h1 : ¬ F 5 p = 0) : isT F s p = false := by
  unfold isT
  rw [beq_f h1, Bool.false_and, Bool.and_false]
theorem isT_3 {F : Nat → Nat → Int32} {s p : Nat} (h1 : ¬ F 4 p = nI s) : isT F s p = false := by
  unfold isT
  rw [beq_f h1, Bool.and_false, Bool.and_false]
/-- the most free tranks of one skin of a colour, among the first s skins -/
def mxT (F : Nat → Nat → Int32) (np : Nat) (c : Int32) : Nat → Nat | 0 => 0 | s + 1 => if F 1 s == c then max (mxT F np c s) (fT F np s) else mxT F np c s
theorem mxT_t {F : Nat → Nat → Int32} {np s : Nat} {c : Int32} (h : F 1 s = c) : mxT F np c (s + 1) = max (mxT F np c s) (fT F np s) := by rw [mxT, beq_t h]; rfl
theorem mxT_f {F : Nat → Nat → Int32} {np s : Nat} {c : Int32} (h : ¬ F 1 s = c) : mxT F np c (s + 1) = mxT F np c s := by rw [mxT, beq_f h]; rfl
theorem mxT_le (F : Nat → Nat → Int32) (np : Nat) (c : Int32) : ∀ s, mxT F np c s ≤ np
  | 0 => Nat.zero_le _
  | s + 1 => by
    have h1 := mxT_le F np c s
    have h2 := fT_le F np s
    rw [mxT]
    split
    · exact Nat.max_le.mpr ⟨h1, h2⟩
    · exact h1
/-- how many pairs the tranks of a colour allow -/
def tP (F : Nat → Nat → Int32) (np : Nat) (c : Int32) : Nat → Nat | 0 => 0 | s + 1 => if F 1 s == c then tP F np c s + fT F np s / 2 else tP F np c s
theorem tP_t {F : Nat → Nat → Int32} {np s : Nat} {c : Int32} (h : F 1 s = c) : tP F np c (s + 1) = tP F np c s + fT F np s / 2 := by rw [tP, beq_t h]; rfl
theorem tP_f {F : Nat → Nat → Int32} {np s : Nat} {c : Int32} (h : ¬ F 1 s = c) : tP F np c (s + 1) = tP F np c s := by rw [tP, beq_f h]; rfl
theorem tP_le (F : Nat → Nat → Int32) (np : Nat) (c : Int32) : ∀ s, tP F np c s ≤ np * s
  | 0 => Nat.zero_le _
  | s + 1 => by
    have h1 := tP_le F np c s
    have h2 := fT_le F np s
    rw [tP, Nat.mul_succ]
    split <;> omega
def lkN (F : Nat → Nat → Int32) (n np : Nat) (c : Int32) (kd : Nat) : Nat := kP kd - (if kd = 0 then mxT F np c n else fC F np c (nI kd))
theorem lkN_le (F : Nat → Nat → Int32) (n np : Nat) (c : Int32) (kd : Nat) : lkN F n np c kd ≤ 6 := Nat.le_trans (Nat.sub_le _ _) (kP_le kd).1
def tsB (F : Nat → Nat → Int32) (np : Nat) (c : Int32) (s : Nat) : Bool := F 1 s == c && decide (2 ≤ fT F np s)
theorem tsB_t {F : Nat → Nat → Int32} {np s : Nat} {c : Int32} (h : F 1 s = c) (h2 : 2 ≤ fT F np s) : tsB F np c s = true := by unfold tsB; rw [beq_t h, decide_eq_true h2]; rfl
theorem tsB_1 {F : Nat → Nat → Int32} {np s : Nat} {c : Int32} (h : ¬ F 1 s = c) : tsB F np c s = false := by unfold tsB; rw [beq_f h]; rfl
theorem tsB_2 {F : Nat → Nat → Int32} {np s : Nat} {c : Int32} (h2 : ¬ 2 ≤ fT F np s) : tsB F np c s = false := by unfold tsB; rw [decide_eq_false h2, Bool.and_false]
theorem max0_sub {a b : Nat} (ha : a < 2 ^ 30) (hb : b < 2 ^ 30) : (if nI 0 < nI a - nI b then nI a - nI b else nI 0) = nI (a - b) := by
  have h := pk_sub_toInt ha hb
  by_cases q : b < a
  · rw [pk_sub (Nat.le_of_lt q), if_pos (nI_lt (by omega) (by omega))]
  · rw [if_neg (fun z => ?_), show a - b = 0 by omega]
    have z2 : (nI 0).toInt < (nI a - nI b).toInt := Int32.lt_iff_toInt_lt.mp z
    rw [h, nI_toInt (by decide)] at z2
    omega
end
section
set_option maxHeartbeats 4000000 in
set_option maxRecDepth 100000 in
/-- tallySkin -/
theorem c_X0_tallySkin (l : Launch) (D : va_G) (cI cZ cO : ClassId) (ad : Nat → Nat) (n np nq : Nat) (F : Nat → Nat → Int32) (s0 : Nat) (v : Int32) (hs : s0 < 10) : Met l yX0_tallySkin wsX0_tallySkin ({ frames := 1, cells := 0, slots := 0, locals := 28 } : Room) (va_Pc [.ref (ad 0), .int (nI s0), .int v] (Pr D (gT cI cZ cO) (wG cI cZ cO ad n np nq F) V0)) (va_Qi (S := Unit) (fun (r : Int32) (_ : Unit) => r = nI (tS F s0 v)) (fun _ _ => True) (fun _ => False)) 0 0 (fun _ => False) := by
  refine Met.ofW (cc := cX0_tallySkin) (maxL := 3) (ret := (some .int)) (by decide) rfl ?_
  intro p e s m args below meth c s₁ B hml hv
  obtain ⟨hargs, hP, hK, hV⟩ := hv
  have hx := B.exec
  have hb := B.bytes
  have hr := B.returns
  have hts := atoms_spec (ws := wsX0_tallySkin) B.pre
  have hown : s.vm.findClass RX0 = some m.cls := findClass_of_methodNamed B.named
  have hlocks := B.notSynchronized
  have hS : va_S (fun _ => False) s.heap s.heap [] := va_S.rf
  have hiw : ∀ w ∈ wsX00, w ∈ wsX0_tallySkin := (fun _ h => List.mem_cons_of_mem _ (List.mem_append_right _ h))
  have hRf : 1 ≤ (headSpec wsX0_tallySkin ({ frames := 1, cells := 0, slots := 0, locals := 28 } : Room)).room.frames := Nat.le_refl _
  have hRl : 28 ≤ (headSpec wsX0_tallySkin ({ frames := 1, cells := 0, slots := 0, locals := 28 } : Room)).room.locals := Nat.le_refl _
  have hRc : 0 ≤ (headSpec wsX0_tallySkin ({ frames := 1, cells := 0, slots := 0, locals := 28 } : Room)).room.cells := Nat.le_refl _
  have hRs : 0 ≤ (headSpec wsX0_tallySkin ({ frames := 1, cells := 0, slots := 0, locals := 28 } : Room)).room.slots := Nat.le_refl _
  generalize (headSpec wsX0_tallySkin ({ frames := 1, cells := 0, slots := 0, locals := 28 } : Room)).room = R at hRf hRl hRc hRs ⊢
  have hl := lv_entry [.ref (ad 0), .int (nI s0), .int v] (n := 3) (Nat.le_of_ble_eq_true rfl)
  refine W.eq (show entryFrame m args 3 = _ from by rw [hargs, lg_entry_eq]) ?_
  generalize (lg_sl [.ref (ad 0), .int (nI s0), .int v] ++ List.replicate (3 - (lg_sl [.ref (ad 0), .int (nI s0), .int v]).length) Slot.unset).toArray = ls at hl ⊢
  have hl : lv_has ls 3 [(0, .ref (ad 0)), (1, .int (nI s0)), (2, .int v)] := hl
  generalize hQ : MQ _ _ _ _ _ _ _ = Q
  refine lv_aload_n hx hb dX0_tallySkin_0 rfl (lv_at hl 0 rfl) ?_
  refine va_get (D := D) (ci := 0) (v := .ref (ad 3)) (C := RX0) (T := TX0) (N := 16) hx hb hts hiw hown hK hP 0 g_at0 rfl 3 (by decide) (hts (.fieldLink RX0 18 "GloveCutters" "skinCells" "[[I") (by decide +kernel)) (fun _ h9 => h9) rfl dX0_tallySkin_1 ?_
  refine lv_iload_n hx hb dX0_tallySkin_4 rfl (lv_at hl 1 rfl) ?_
  refine nv_aald hx hb hK hP 3 2 g_at3 rfl (by omega) (by decide) (if_pos (by omega)) dX0_tallySkin_5 ?_
  refine lv_iconst (v := nI 0) hx hb dX0_tallySkin_6 (by decide) ?_
  refine lv_iconst (v := nI 0) hx hb dX0_tallySkin_7 (by decide) ?_
  refine lv_bipush (v := nI 12) hx hb dX0_tallySkin_8 (by decide) ?_
  refine lv_bipush (v := nI 8) hx hb dX0_tallySkin_10 (by decide) ?_
  refine lv_iload_n hx hb dX0_tallySkin_12 rfl (lv_at hl 2 rfl) ?_
  refine va_calli (va_runS (As := [.ref (ad (14 + s0)), .int (nI 0), .int (nI 0), .int (nI 12), .int (nI 8), .int v]) (rest := []) ⟨hx, hb, hml, hown, hts⟩ (c_X0_tally l D cI (ad (14 + s0)) 96 (F (14 + s0)) 0 0 12 8 v (by omega) (by omega) (by omega)) (va_cwS 6 hts gX0_tallySkin_X0_tally rfl rfl rfl (by decide +kernel) ⟨Nat.le_trans (Nat.le_of_ble_eq_true rfl) hRf, Nat.le_trans (Nat.le_of_ble_eq_true rfl) hRl⟩) (pr_S (P_pick hP (k := (14 + s0)) (g_atr (k := s0) (by omega))) hK [0] rfl V0_at V0_c) rfl rfl hl.1 rfl (lv_room (Nat.le_of_ble_eq_true rfl)) dX0_tallySkin_13 ⟨Nat.le_trans (Nat.zero_le _) hRc, Nat.le_trans (Nat.zero_le _) hRs⟩) hS (fun _ _ h => h.elim) (fun _ h => h.elim) (fun r_1 _ t H1 locs ht hvm hw_1 hB hz hk hS => ?_)
  have hP := P_kept hP hk
  obtain rfl := hw_1
  rw [← hQ]
  exact W.iret (v := nI (ct (F (14 + s0)) (12 * 0 + 0) 12 v (12 * 8))) hx hb hr (fun t ht hW => ⟨⟨nI (ct (F (14 + s0)) (12 * 0 + 0) 12 v (12 * 8)), (), rfl, rfl, trivial⟩, hS.F ht⟩) hS.2.2 dX0_tallySkin_16
set_option maxHeartbeats 4000000 in
set_option maxRecDepth 100000 in
/-- tellSkin -/
theorem c_X0_tellSkin (l : Launch) (D : va_G) (cI cZ cO : ClassId) (ad : Nat → Nat) (n np nq : Nat) (F : Nat → Nat → Int32) (s0 w : Nat) (hs : s0 < 10) (hw : w < 6) : Met l yX0_tellSkin wsX0_tellSkin ({ frames := 2, cells := 0, slots := 0, locals := 50 } : Room) (va_Pc [.ref (ad 0), .int (nI s0), .int (nI w)] (Pr D (gT cI cZ cO) (wG cI cZ cO ad n np nq F) V0)) (va_Qi (S := Unit) (fun (r : Int32) (_ : Unit) => r = skT F s0 w) (fun _ _ => True) (fun _ => False)) 0 0 (fun _ => False) := by
  refine Met.ofW (cc := cX0_tellSkin) (maxL := 3) (ret := (some .int)) (by decide) rfl ?_
  intro p e s m args below meth c s₁ B hml hv
  obtain ⟨hargs, hP, hK, hV⟩ := hv
  have hx := B.exec
  have hb := B.bytes
  have hr := B.returns
  have hts := atoms_spec (ws := wsX0_tellSkin) B.pre
  have hown : s.vm.findClass RX0 = some m.cls := findClass_of_methodNamed B.named
  have hlocks := B.notSynchronized
  have hS : va_S (fun _ => False) s.heap s.heap [] := va_S.rf
  have hiw : ∀ w ∈ wsX00, w ∈ wsX0_tellSkin := (fun _ h => List.mem_cons_of_mem _ (List.mem_append_right _ h))
  have hRf : 2 ≤ (headSpec wsX0_tellSkin ({ frames := 2, cells := 0, slots := 0, locals := 50 } : Room)).room.frames := Nat.le_refl _
  have hRl : 50 ≤ (headSpec wsX0_tellSkin ({ frames := 2, cells := 0, slots := 0, locals := 50 } : Room)).room.locals := Nat.le_refl _
  have hRc : 0 ≤ (headSpec wsX0_tellSkin ({ frames := 2, cells := 0, slots := 0, locals := 50 } : Room)).room.cells := Nat.le_refl _
  have hRs : 0 ≤ (headSpec wsX0_tellSkin ({ frames := 2, cells := 0, slots := 0, locals := 50 } : Room)).room.slots := Nat.le_refl _
  generalize (headSpec wsX0_tellSkin ({ frames := 2, cells := 0, slots := 0, locals := 50 } : Room)).room = R at hRf hRl hRc hRs ⊢
  have hl := lv_entry [.ref (ad 0), .int (nI s0), .int (nI w)] (n := 3) (Nat.le_of_ble_eq_true rfl)
  refine W.eq (show entryFrame m args 3 = _ from by rw [hargs, lg_entry_eq]) ?_
  generalize (lg_sl [.ref (ad 0), .int (nI s0), .int (nI w)] ++ List.replicate (3 - (lg_sl [.ref (ad 0), .int (nI s0), .int (nI w)]).length) Slot.unset).toArray = ls at hl ⊢
  have hl : lv_has ls 3 [(0, .ref (ad 0)), (1, .int (nI s0)), (2, .int (nI w))] := hl
  generalize hQ : MQ _ _ _ _ _ _ _ = Q
  refine lv_iload_n hx hb dX0_tellSkin_0 rfl (lv_at hl 2 rfl) ?_
  rcases (show w = 0 ∨ w = 1 ∨ w = 2 ∨ w = 3 ∨ w = 4 ∨ w = 5 by omega) with rfl | rfl | rfl | rfl | rfl | rfl
  · refine lv_tableIn (off := 35) (tgt := 36) hx hb dX0_tellSkin_1 (by decide) (by decide) (by decide) (by decide) ?_
    refine lv_aload_n hx hb dX0_tellSkin_36 rfl (lv_at hl 0 rfl) ?_
    refine va_get (D := D) (ci := 0) (v := .ref (ad 1)) (C := RX0) (T := TX0) (N := 16) hx hb hts hiw hown hK hP 0 g_at0 rfl 1 (by decide) (hts (.fieldLink RX0 9 "GloveCutters" "skinColour" "[I") (by decide +kernel)) (fun _ h9 => h9) rfl dX0_tellSkin_37 ?_
    refine lv_iload_n hx hb dX0_tellSkin_40 rfl (lv_at hl 1 rfl) ?_
    refine nv_iald hx hb hK hP 1 0 g_at1 rfl (by omega) (by omega) dX0_tellSkin_41 ?_
    rw [← hQ]
    exact W.iret (v := F 1 s0) hx hb hr (fun t ht hW => ⟨⟨F 1 s0, (), rfl, rfl, trivial⟩, hS.F ht⟩) hS.2.2 dX0_tellSkin_42
  · refine lv_tableIn (off := 42) (tgt := 43) hx hb dX0_tellSkin_1 (by decide) (by decide) (by decide) (by decide) ?_
    refine lv_aload_n hx hb dX0_tellSkin_43 rfl (lv_at hl 0 rfl) ?_
    refine lv_iload_n hx hb dX0_tellSkin_44 rfl (lv_at hl 1 rfl) ?_
    refine lv_iconst (v := nI 0) hx hb dX0_tellSkin_45 (by decide) ?_
    refine va_calli (va_runV (As := [.int (nI s0), .int (nI 0)]) (rest := []) ⟨hx, hb, hml, hown, hts⟩ (c_X0_tallySkin l D cI cZ cO ad n np nq F s0 (nI 0) hs) (cwV 2 hts gX0_tellSkin_X0_tallySkin rfl rfl rfl (by decide +kernel) ⟨Nat.le_trans (Nat.le_of_ble_eq_true rfl) hRf, Nat.le_trans (Nat.le_of_ble_eq_true rfl) hRl⟩) (pr_V hP (ci := 0) (q0 := 0) rfl g_at0 rfl hP hK [0, 1, 2] rfl V0_at V0_c) rfl rfl hl.1 rfl (lv_room (Nat.le_of_ble_eq_true rfl)) dX0_tellSkin_46 ⟨Nat.le_trans (Nat.zero_le _) hRc, Nat.le_trans (Nat.zero_le _) hRs⟩) hS (fun _ _ h => h.elim) (fun _ h => h.elim) (fun r_1 _ t H1 locs ht hvm hw_1 hB hz hk hS => ?_)
    have hP := P_kept hP hk
    obtain rfl := hw_1
    rw [← hQ]
    exact W.iret (v := nI (tS F s0 (nI 0))) hx hb hr (fun t ht hW => ⟨⟨nI (tS F s0 (nI 0)), (), rfl, rfl, trivial⟩, hS.F ht⟩) hS.2.2 dX0_tellSkin_49
  · refine lv_tableIn (off := 49) (tgt := 50) hx hb dX0_tellSkin_1 (by decide) (by decide) (by decide) (by decide) ?_
    refine lv_aload_n hx hb dX0_tellSkin_50 rfl (lv_at hl 0 rfl) ?_
    refine lv_iload_n hx hb dX0_tellSkin_51 rfl (lv_at hl 1 rfl) ?_
    refine lv_iconst (v := nI 1) hx hb dX0_tellSkin_52 (by decide) ?_
    refine va_calli (va_runV (As := [.int (nI s0), .int (nI 1)]) (rest := []) ⟨hx, hb, hml, hown, hts⟩ (c_X0_tallySkin l D cI cZ cO ad n np nq F s0 (nI 1) hs) (cwV 2 hts gX0_tellSkin_X0_tallySkin rfl rfl rfl (by decide +kernel) ⟨Nat.le_trans (Nat.le_of_ble_eq_true rfl) hRf, Nat.le_trans (Nat.le_of_ble_eq_true rfl) hRl⟩) (pr_V hP (ci := 0) (q0 := 0) rfl g_at0 rfl hP hK [0, 1, 2] rfl V0_at V0_c) rfl rfl hl.1 rfl (lv_room (Nat.le_of_ble_eq_true rfl)) dX0_tellSkin_53 ⟨Nat.le_trans (Nat.zero_le _) hRc, Nat.le_trans (Nat.zero_le _) hRs⟩) hS (fun _ _ h => h.elim) (fun _ h => h.elim) (fun r_2 _ t H1 locs ht hvm hw_2 hB hz hk hS => ?_)
    have hP := P_kept hP hk
    obtain rfl := hw_2
    rw [← hQ]
    exact W.iret (v := nI (tS F s0 (nI 1))) hx hb hr (fun t ht hW => ⟨⟨nI (tS F s0 (nI 1)), (), rfl, rfl, trivial⟩, hS.F ht⟩) hS.2.2 dX0_tellSkin_56
  · refine lv_tableIn (off := 56) (tgt := 57) hx hb dX0_tellSkin_1 (by decide) (by decide) (by decide) (by decide) ?_
    refine lv_aload_n hx hb dX0_tellSkin_57 rfl (lv_at hl 0 rfl) ?_
    refine lv_iload_n hx hb dX0_tellSkin_58 rfl (lv_at hl 1 rfl) ?_
    refine lv_iconst (v := nI 2) hx hb dX0_tellSkin_59 (by decide) ?_
    refine va_calli (va_runV (As := [.int (nI s0), .int (nI 2)]) (rest := []) ⟨hx, hb, hml, hown, hts⟩ (c_X0_tallySkin l D cI cZ cO ad n np nq F s0 (nI 2) hs) (cwV 2 hts gX0_tellSkin_X0_tallySkin rfl rfl rfl (by decide +kernel) ⟨Nat.le_trans (Nat.le_of_ble_eq_true rfl) hRf, Nat.le_trans (Nat.le_of_ble_eq_true rfl) hRl⟩) (pr_V hP (ci := 0) (q0 := 0) rfl g_at0 rfl hP hK [0, 1, 2] rfl V0_at V0_c) rfl rfl hl.1 rfl (lv_room (Nat.le_of_ble_eq_true rfl)) dX0_tellSkin_60 ⟨Nat.le_trans (Nat.zero_le _) hRc, Nat.le_trans (Nat.zero_le _) hRs⟩) hS (fun _ _ h => h.elim) (fun _ h => h.elim) (fun r_3 _ t H1 locs ht hvm hw_3 hB hz hk hS => ?_)
    have hP := P_kept hP hk
    obtain rfl := hw_3
    rw [← hQ]
    exact W.iret (v := nI (tS F s0 (nI 2))) hx hb hr (fun t ht hW => ⟨⟨nI (tS F s0 (nI 2)), (), rfl, rfl, trivial⟩, hS.F ht⟩) hS.2.2 dX0_tellSkin_63
  · refine lv_tableIn (off := 63) (tgt := 64) hx hb dX0_tellSkin_1 (by decide) (by decide) (by decide) (by decide) ?_
    refine lv_aload_n hx hb dX0_tellSkin_64 rfl (lv_at hl 0 rfl) ?_
    refine lv_iload_n hx hb dX0_tellSkin_65 rfl (lv_at hl 1 rfl) ?_
    refine lv_iconst (v := nI 3) hx hb dX0_tellSkin_66 (by decide) ?_
    refine va_calli (va_runV (As := [.int (nI s0), .int (nI 3)]) (rest := []) ⟨hx, hb, hml, hown, hts⟩ (c_X0_tallySkin l D cI cZ cO ad n np nq F s0 (nI 3) hs) (cwV 2 hts gX0_tellSkin_X0_tallySkin rfl rfl rfl (by decide +kernel) ⟨Nat.le_trans (Nat.le_of_ble_eq_true rfl) hRf, Nat.le_trans (Nat.le_of_ble_eq_true rfl) hRl⟩) (pr_V hP (ci := 0) (q0 := 0) rfl g_at0 rfl hP hK [0, 1, 2] rfl V0_at V0_c) rfl rfl hl.1 rfl (lv_room (Nat.le_of_ble_eq_true rfl)) dX0_tellSkin_67 ⟨Nat.le_trans (Nat.zero_le _) hRc, Nat.le_trans (Nat.zero_le _) hRs⟩) hS (fun _ _ h => h.elim) (fun _ h => h.elim) (fun r_4 _ t H1 locs ht hvm hw_4 hB hz hk hS => ?_)
    have hP := P_kept hP hk
    obtain rfl := hw_4
    rw [← hQ]
    exact W.iret (v := nI (tS F s0 (nI 3))) hx hb hr (fun t ht hW => ⟨⟨nI (tS F s0 (nI 3)), (), rfl, rfl, trivial⟩, hS.F ht⟩) hS.2.2 dX0_tellSkin_70
  · refine lv_tableOut (tgt := 71) hx hb dX0_tellSkin_1 (by decide) (by decide) ?_
    refine lv_aload_n hx hb dX0_tellSkin_71 rfl (lv_at hl 0 rfl) ?_
    refine va_get (D := D) (ci := 0) (v := .ref (ad 2)) (C := RX0) (T := TX0) (N := 16) hx hb hts hiw hown hK hP 0 g_at0 rfl 2 (by decide) (hts (.fieldLink RX0 13 "GloveCutters" "skinPieces" "[I") (by decide +kernel)) (fun _ h9 => h9) rfl dX0_tellSkin_72 ?_
    refine lv_iload_n hx hb dX0_tellSkin_75 rfl (lv_at hl 1 rfl) ?_
    refine nv_iald hx hb hK hP 2 0 g_at2 rfl (by omega) (by omega) dX0_tellSkin_76 ?_
    rw [← hQ]
    exact W.iret (v := F 2 s0) hx hb hr (fun t ht hW => ⟨⟨F 2 s0, (), rfl, rfl, trivial⟩, hS.F ht⟩) hS.2.2 dX0_tellSkin_77
set_option maxHeartbeats 4000000 in
set_option maxRecDepth 100000 in
/-- tellPiece -/
theorem c_X0_tellPiece (l : Launch) (D : va_G) (cI cZ cO : ClassId) (ad : Nat → Nat) (n np nq : Nat) (F : Nat → Nat → Int32) (p0 w : Nat) (hs : p0 < np) (hnp : np ≤ 150) (hw : w < 4) : Met l yX0_tellPiece wsX0_tellPiece ({ frames := 0, cells := 0, slots := 0, locals := 0 } : Room) (va_Pc [.ref (ad 0), .int (nI p0), .int (nI w)] (Pr D (gT cI cZ cO) (wG cI cZ cO ad n np nq F) V0)) (va_Qi (S := Unit) (fun (r : Int32) (_ : Unit) => r = pcT F p0 w) (fun _ _ => True) (fun _ => False)) 0 0 (fun _ => False) := by
  refine Met.ofW (cc := cX0_tellPiece) (maxL := 3) (ret := (some .int)) (by decide) rfl ?_
  intro p e s m args below meth c s₁ B hml hv
  obtain ⟨hargs, hP, hK, hV⟩ := hv
  have hx := B.exec
  have hb := B.bytes
  have hr := B.returns
  have hts := atoms_spec (ws := wsX0_tellPiece) B.pre
  have hown : s.vm.findClass RX0 = some m.cls := findClass_of_methodNamed B.named
  have hlocks := B.notSynchronized
  have hS : va_S (fun _ => False) s.heap s.heap [] := va_S.rf
  have hiw : ∀ w ∈ wsX00, w ∈ wsX0_tellPiece := (fun _ h => List.mem_cons_of_mem _ (List.mem_append_right _ h))
  have hRf : 0 ≤ (headSpec wsX0_tellPiece ({ frames := 0, cells := 0, slots := 0, locals := 0 } : Room)).room.frames := Nat.le_refl _
  have hRl : 0 ≤ (headSpec wsX0_tellPiece ({ frames := 0, cells := 0, slots := 0, locals := 0 } : Room)).room.locals := Nat.le_refl _
  have hRc : 0 ≤ (headSpec wsX0_tellPiece ({ frames := 0, cells := 0, slots := 0, locals := 0 } : Room)).room.cells := Nat.le_refl _
  have hRs : 0 ≤ (headSpec wsX0_tellPiece ({ frames := 0, cells := 0, slots := 0, locals := 0 } : Room)).room.slots := Nat.le_refl _
  generalize (headSpec wsX0_tellPiece ({ frames := 0, cells := 0, slots := 0, locals := 0 } : Room)).room = R at hRf hRl hRc hRs ⊢
  have hl := lv_entry [.ref (ad 0), .int (nI p0), .int (nI w)] (n := 3) (Nat.le_of_ble_eq_true rfl)
  refine W.eq (show entryFrame m args 3 = _ from by rw [hargs, lg_entry_eq]) ?_
  generalize (lg_sl [.ref (ad 0), .int (nI p0), .int (nI w)] ++ List.replicate (3 - (lg_sl [.ref (ad 0), .int (nI p0), .int (nI w)]).length) Slot.unset).toArray = ls at hl ⊢
  have hl : lv_has ls 3 [(0, .ref (ad 0)), (1, .int (nI p0)), (2, .int (nI w))] := hl
  generalize hQ : MQ _ _ _ _ _ _ _ = Q
  refine lv_iload_n hx hb dX0_tellPiece_0 rfl (lv_at hl 2 rfl) ?_
  rcases (show w = 0 ∨ w = 1 ∨ w = 2 ∨ w = 3 by omega) with rfl | rfl | rfl | rfl
  · refine lv_tableIn (off := 27) (tgt := 28) hx hb dX0_tellPiece_1 (by decide) (by decide) (by decide) (by decide) ?_
    refine lv_aload_n hx hb dX0_tellPiece_28 rfl (lv_at hl 0 rfl) ?_
    refine va_get (D := D) (ci := 0) (v := .ref (ad 4)) (C := RX0) (T := TX0) (N := 16) hx hb hts hiw hown hK hP 0 g_at0 rfl 5 (by decide) (hts (.fieldLink RX0 21 "GloveCutters" "pieceSkin" "[I") (by decide +kernel)) (fun _ h9 => h9) rfl dX0_tellPiece_29 ?_
    refine lv_iload_n hx hb dX0_tellPiece_32 rfl (lv_at hl 1 rfl) ?_
    refine nv_iald hx hb hK hP 4 0 g_at4 rfl (by omega) (by omega) dX0_tellPiece_33 ?_
    rw [← hQ]
    exact W.iret (v := F 4 p0) hx hb hr (fun t ht hW => ⟨⟨F 4 p0, (), rfl, rfl, trivial⟩, hS.F ht⟩) hS.2.2 dX0_tellPiece_34
  · refine lv_tableIn (off := 34) (tgt := 35) hx hb dX0_tellPiece_1 (by decide) (by decide) (by decide) (by decide) ?_
    refine lv_aload_n hx hb dX0_tellPiece_35 rfl (lv_at hl 0 rfl) ?_
    refine va_get (D := D) (ci := 0) (v := .ref (ad 5)) (C := RX0) (T := TX0) (N := 16) hx hb hts hiw hown hK hP 0 g_at0 rfl 6 (by decide) (hts (.fieldLink RX0 24 "GloveCutters" "pieceKind" "[I") (by decide +kernel)) (fun _ h9 => h9) rfl dX0_tellPiece_36 ?_
    refine lv_iload_n hx hb dX0_tellPiece_39 rfl (lv_at hl 1 rfl) ?_
    refine nv_iald hx hb hK hP 5 0 g_at5 rfl (by omega) (by omega) dX0_tellPiece_40 ?_
    rw [← hQ]
    exact W.iret (v := F 5 p0) hx hb hr (fun t ht hW => ⟨⟨F 5 p0, (), rfl, rfl, trivial⟩, hS.F ht⟩) hS.2.2 dX0_tellPiece_41
  · refine lv_tableIn (off := 41) (tgt := 42) hx hb dX0_tellPiece_1 (by decide) (by decide) (by decide) (by decide) ?_
    refine lv_aload_n hx hb dX0_tellPiece_42 rfl (lv_at hl 0 rfl) ?_
    refine va_get (D := D) (ci := 0) (v := .ref (ad 6)) (C := RX0) (T := TX0) (N := 16) hx hb hts hiw hown hK hP 0 g_at0 rfl 7 (by decide) (hts (.fieldLink RX0 27 "GloveCutters" "pieceWhere" "[I") (by decide +kernel)) (fun _ h9 => h9) rfl dX0_tellPiece_43 ?_
    refine lv_iload_n hx hb dX0_tellPiece_46 rfl (lv_at hl 1 rfl) ?_
    refine nv_iald hx hb hK hP 6 0 g_at6 rfl (by omega) (by omega) dX0_tellPiece_47 ?_
    rw [← hQ]
    exact W.iret (v := F 6 p0) hx hb hr (fun t ht hW => ⟨⟨F 6 p0, (), rfl, rfl, trivial⟩, hS.F ht⟩) hS.2.2 dX0_tellPiece_48
  · refine lv_tableOut (tgt := 49) hx hb dX0_tellPiece_1 (by decide) (by decide) ?_
    refine lv_aload_n hx hb dX0_tellPiece_49 rfl (lv_at hl 0 rfl) ?_
    refine va_get (D := D) (ci := 0) (v := .ref (ad 7)) (C := RX0) (T := TX0) (N := 16) hx hb hts hiw hown hK hP 0 g_at0 rfl 8 (by decide) (hts (.fieldLink RX0 30 "GloveCutters" "pieceThin" "[I") (by decide +kernel)) (fun _ h9 => h9) rfl dX0_tellPiece_50 ?_
    refine lv_iload_n hx hb dX0_tellPiece_53 rfl (lv_at hl 1 rfl) ?_
    refine nv_iald hx hb hK hP 7 0 g_at7 rfl (by omega) (by omega) dX0_tellPiece_54 ?_
    rw [← hQ]
    exact W.iret (v := F 7 p0) hx hb hr (fun t ht hW => ⟨⟨F 7 p0, (), rfl, rfl, trivial⟩, hS.F ht⟩) hS.2.2 dX0_tellPiece_55
set_option maxHeartbeats 4000000 in
set_option maxRecDepth 100000 in
/-- tellPair -/
theorem c_X0_tellPair (l : Launch) (D : va_G) (cI cZ cO : ClassId) (ad : Nat → Nat) (n np nq : Nat) (F : Nat → Nat → Int32) (p0 w : Nat) (hs : p0 < nq) (hnq : nq ≤ 20) (hw : w < 5) (hrip : ∀ q, q < nq → F 12 q = 0 ∨ F 12 q = 1) : Met l yX0_tellPair wsX0_tellPair ({ frames := 0, cells := 0, slots := 0, locals := 0 } : Room) (va_Pc [.ref (ad 0), .int (nI p0), .int (nI w)] (Pr D (gT cI cZ cO) (wG cI cZ cO ad n np nq F) V0)) (va_Qi (S := Unit) (fun (r : Int32) (_ : Unit) => r = prT F p0 w) (fun _ _ => True) (fun _ => False)) 0 0 (fun _ => False) := by
  refine Met.ofW (cc := cX0_tellPair) (maxL := 3) (ret := (some .int)) (by decide) rfl ?_
  intro p e s m args below meth c s₁ B hml hv
  obtain ⟨hargs, hP, hK, hV⟩ := hv
  have hx := B.exec
  have hb := B.bytes
  have hr := B.returns
  have hts := atoms_spec (ws := wsX0_tellPair) B.pre
  have hown : s.vm.findClass RX0 = some m.cls := findClass_of_methodNamed B.named
  have hlocks := B.notSynchronized
  have hS : va_S (fun _ => False) s.heap s.heap [] := va_S.rf
  have hiw : ∀ w ∈ wsX00, w ∈ wsX0_tellPair := (fun _ h => List.mem_cons_of_mem _ (List.mem_append_right _ h))
  have hRf : 0 ≤ (headSpec wsX0_tellPair ({ frames := 0, cells := 0, slots := 0, locals := 0 } : Room)).room.frames := Nat.le_refl _
  have hRl : 0 ≤ (headSpec wsX0_tellPair ({ frames := 0, cells := 0, slots := 0, locals := 0 } : Room)).room.locals := Nat.le_refl _
  have hRc : 0 ≤ (headSpec wsX0_tellPair ({ frames := 0, cells := 0, slots := 0, locals := 0 } : Room)).room.cells := Nat.le_refl _
  have hRs : 0 ≤ (headSpec wsX0_tellPair ({ frames := 0, cells := 0, slots := 0, locals := 0 } : Room)).room.slots := Nat.le_refl _
  generalize (headSpec wsX0_tellPair ({ frames := 0, cells := 0, slots := 0, locals := 0 } : Room)).room = R at hRf hRl hRc hRs ⊢
  have hl := lv_entry [.ref (ad 0), .int (nI p0), .int (nI w)] (n := 3) (Nat.le_of_ble_eq_true rfl)
  refine W.eq (show entryFrame m args 3 = _ from by rw [hargs, lg_entry_eq]) ?_
  generalize (lg_sl [.ref (ad 0), .int (nI p0), .int (nI w)] ++ List.replicate (3 - (lg_sl [.ref (ad 0), .int (nI p0), .int (nI w)]).length) Slot.unset).toArray = ls at hl ⊢
  have hl : lv_has ls 3 [(0, .ref (ad 0)), (1, .int (nI p0)), (2, .int (nI w))] := hl
  generalize hQ : MQ _ _ _ _ _ _ _ = Q
  refine lv_iload_n hx hb dX0_tellPair_0 rfl (lv_at hl 2 rfl) ?_
  rcases (show w = 0 ∨ w = 1 ∨ w = 2 ∨ w = 3 ∨ w = 4 by omega) with rfl | rfl | rfl | rfl | rfl
  · refine lv_tableIn (off := 31) (tgt := 32) hx hb dX0_tellPair_1 (by decide) (by decide) (by decide) (by decide) ?_
    refine lv_aload_n hx hb dX0_tellPair_32 rfl (lv_at hl 0 rfl) ?_
    refine va_get (D := D) (ci := 0) (v := .ref (ad 8)) (C := RX0) (T := TX0) (N := 16) hx hb hts hiw hown hK hP 0 g_at0 rfl 10 (by decide) (hts (.fieldLink RX0 33 "GloveCutters" "pairColour" "[I") (by decide +kernel)) (fun _ h9 => h9) rfl dX0_tellPair_33 ?_
    refine lv_iload_n hx hb dX0_tellPair_36 rfl (lv_at hl 1 rfl) ?_
    refine nv_iald hx hb hK hP 8 0 g_at8 rfl (by omega) (by omega) dX0_tellPair_37 ?_
    rw [← hQ]
    exact W.iret (v := F 8 p0) hx hb hr (fun t ht hW => ⟨⟨F 8 p0, (), rfl, rfl, trivial⟩, hS.F ht⟩) hS.2.2 dX0_tellPair_38
  · refine lv_tableIn (off := 38) (tgt := 39) hx hb dX0_tellPair_1 (by decide) (by decide) (by decide) (by decide) ?_
    refine lv_aload_n hx hb dX0_tellPair_39 rfl (lv_at hl 0 rfl) ?_
    refine va_get (D := D) (ci := 0) (v := .ref (ad 9)) (C := RX0) (T := TX0) (N := 16) hx hb hts hiw hown hK hP 0 g_at0 rfl 11 (by decide) (hts (.fieldLink RX0 36 "GloveCutters" "pairTrankSkin" "[I") (by decide +kernel)) (fun _ h9 => h9) rfl dX0_tellPair_40 ?_
    refine lv_iload_n hx hb dX0_tellPair_43 rfl (lv_at hl 1 rfl) ?_
    refine nv_iald hx hb hK hP 9 0 g_at9 rfl (by omega) (by omega) dX0_tellPair_44 ?_
    rw [← hQ]
    exact W.iret (v := F 9 p0) hx hb hr (fun t ht hW => ⟨⟨F 9 p0, (), rfl, rfl, trivial⟩, hS.F ht⟩) hS.2.2 dX0_tellPair_45
  · refine lv_tableIn (off := 45) (tgt := 46) hx hb dX0_tellPair_1 (by decide) (by decide) (by decide) (by decide) ?_
    refine lv_aload_n hx hb dX0_tellPair_46 rfl (lv_at hl 0 rfl) ?_
    refine va_get (D := D) (ci := 0) (v := .ref (ad 10)) (C := RX0) (T := TX0) (N := 16) hx hb hts hiw hown hK hP 0 g_at0 rfl 12 (by decide) (hts (.fieldLink RX0 39 "GloveCutters" "pairSkins" "[I") (by decide +kernel)) (fun _ h9 => h9) rfl dX0_tellPair_47 ?_
    refine lv_iload_n hx hb dX0_tellPair_50 rfl (lv_at hl 1 rfl) ?_
    refine nv_iald hx hb hK hP 10 0 g_at10 rfl (by omega) (by omega) dX0_tellPair_51 ?_
    rw [← hQ]
    exact W.iret (v := F 10 p0) hx hb hr (fun t ht hW => ⟨⟨F 10 p0, (), rfl, rfl, trivial⟩, hS.F ht⟩) hS.2.2 dX0_tellPair_52
  · refine lv_tableIn (off := 52) (tgt := 53) hx hb dX0_tellPair_1 (by decide) (by decide) (by decide) (by decide) ?_
    refine lv_aload_n hx hb dX0_tellPair_53 rfl (lv_at hl 0 rfl) ?_
    refine va_get (D := D) (ci := 0) (v := .ref (ad 11)) (C := RX0) (T := TX0) (N := 16) hx hb hts hiw hown hK hP 0 g_at0 rfl 13 (by decide) (hts (.fieldLink RX0 42 "GloveCutters" "pairThin" "[I") (by decide +kernel)) (fun _ h9 => h9) rfl dX0_tellPair_54 ?_
    refine lv_iload_n hx hb dX0_tellPair_57 rfl (lv_at hl 1 rfl) ?_
    refine nv_iald hx hb hK hP 11 0 g_at11 rfl (by omega) (by omega) dX0_tellPair_58 ?_
    rw [← hQ]
    exact W.iret (v := F 11 p0) hx hb hr (fun t ht hW => ⟨⟨F 11 p0, (), rfl, rfl, trivial⟩, hS.F ht⟩) hS.2.2 dX0_tellPair_59
  · refine lv_tableOut (tgt := 60) hx hb dX0_tellPair_1 (by decide) (by decide) ?_
    refine lv_aload_n hx hb dX0_tellPair_60 rfl (lv_at hl 0 rfl) ?_
    refine va_get (D := D) (ci := 0) (v := .ref (ad 12)) (C := RX0) (T := TX0) (N := 16) hx hb hts hiw hown hK hP 0 g_at0 rfl 14 (by decide) (hts (.fieldLink RX0 45 "GloveCutters" "pairRipped" "[Z") (by decide +kernel)) (fun _ h9 => h9) rfl dX0_tellPair_61 ?_
    refine lv_iload_n hx hb dX0_tellPair_64 rfl (lv_at hl 1 rfl) ?_
    refine nv_zald hx hb hK hP 12 1 g_at12 rfl (by omega) (by decide) dX0_tellPair_65 ?_
    refine lv_if_eq (tgt := 73) hx hb dX0_tellPair_66 (by decide) (fun c_1 => ?_) (fun c_1 => ?_)
    · refine lv_iconst (v := nI 0) hx hb dX0_tellPair_73 (by decide) ?_
      rw [← hQ]
      exact W.iret (v := nI 0) hx hb hr (fun t ht hW => ⟨⟨nI 0, (), rfl, (by show nI 0 = F 12 p0; rw [c_1]; rfl), trivial⟩, hS.F ht⟩) hS.2.2 dX0_tellPair_74
    · refine lv_iconst (v := nI 1) hx hb dX0_tellPair_69 (by decide) ?_
      refine lv_goto (tgt := 74) hx hb dX0_tellPair_70 (by decide) ?_
      rw [← hQ]
      exact W.iret (v := nI 1) hx hb hr (fun t ht hW => ⟨⟨nI 1, (), rfl, (by show nI 1 = F 12 p0; rcases hrip p0 hs with q9 | q9; exact absurd q9 c_1; rw [q9]; rfl), trivial⟩, hS.F ht⟩) hS.2.2 dX0_tellPair_74
set_option maxHeartbeats 4000000 in
set_option maxRecDepth 100000 in
/-- piecesAt -/
theorem c_X0_piecesAt (l : Launch) (D : va_G) (cI cZ cO : ClassId) (ad : Nat → Nat) (n np nq : Nat) (F : Nat → Nat → Int32) (v : Int32) (hnp : np ≤ 150) : Met l yX0_piecesAt wsX0_piecesAt ({ frames := 0, cells := 0, slots := 0, locals := 0 } : Room) (va_Pc [.ref (ad 0), .int v] (Pr D (gT cI cZ cO) (wG cI cZ cO ad n np nq F) V0)) (va_Qi (S := Unit) (fun (r : Int32) (_ : Unit) => r = nI (pAt F np v)) (fun _ _ => True) (fun _ => False)) 0 0 (fun _ => False) := by
  refine Met.ofW (cc := cX0_piecesAt) (maxL := 4) (ret := (some .int)) (by decide) rfl ?_
  intro p e s m args below meth c s₁ B hml hv
  obtain ⟨hargs, hP, hK, hV⟩ := hv
  have hx := B.exec
  have hb := B.bytes
  have hr := B.returns
  have hts := atoms_spec (ws := wsX0_piecesAt) B.pre
  have hown : s.vm.findClass RX0 = some m.cls := findClass_of_methodNamed B.named
  have hlocks := B.notSynchronized
  have hS : va_S (fun _ => False) s.heap s.heap [] := va_S.rf
  have hiw : ∀ w ∈ wsX00, w ∈ wsX0_piecesAt := (fun _ h => List.mem_cons_of_mem _ (List.mem_append_right _ h))
  have hRf : 0 ≤ (headSpec wsX0_piecesAt ({ frames := 0, cells := 0, slots := 0, locals := 0 } : Room)).room.frames := Nat.le_refl _
  have hRl : 0 ≤ (headSpec wsX0_piecesAt ({ frames := 0, cells := 0, slots := 0, locals := 0 } : Room)).room.locals := Nat.le_refl _
  have hRc : 0 ≤ (headSpec wsX0_piecesAt ({ frames := 0, cells := 0, slots := 0, locals := 0 } : Room)).room.cells := Nat.le_refl _
  have hRs : 0 ≤ (headSpec wsX0_piecesAt ({ frames := 0, cells := 0, slots := 0, locals := 0 } : Room)).room.slots := Nat.le_refl _
  generalize (headSpec wsX0_piecesAt ({ frames := 0, cells := 0, slots := 0, locals := 0 } : Room)).room = R at hRf hRl hRc hRs ⊢
  have hl := lv_entry [.ref (ad 0), .int v] (n := 4) (Nat.le_of_ble_eq_true rfl)
  refine W.eq (show entryFrame m args 4 = _ from by rw [hargs, lg_entry_eq]) ?_
  generalize (lg_sl [.ref (ad 0), .int v] ++ List.replicate (4 - (lg_sl [.ref (ad 0), .int v]).length) Slot.unset).toArray = ls at hl ⊢
  have hl : lv_has ls 4 [(0, .ref (ad 0)), (1, .int v)] := hl
  generalize hQ : MQ _ _ _ _ _ _ _ = Q
  refine lv_iconst (v := nI 0) hx hb dX0_piecesAt_0 (by decide) ?_
  refine lv_istore_n (lv' := [(2, .int (nI 0)), (0, .ref (ad 0)), (1, .int v)]) hx hb dX0_piecesAt_1 rfl hl (by decide) rfl (fun ls hl => ?_)
  refine lv_iconst (v := nI 0) hx hb dX0_piecesAt_2 (by decide) ?_
  refine lv_istore_n (lv' := [(3, .int (nI 0)), (2, .int (nI 0)), (0, .ref (ad 0)), (1, .int v)]) hx hb dX0_piecesAt_3 rfl hl (by decide) rfl (fun ls hl => ?_)
  have L4 : ∀ (fu : Nat) (k : Nat) (i : Nat) (H : Heap) (locs : List Loc) (ls : Array Slot), np - i < fu → (i ≤ np) → (k = cn (fun p => F 6 p == v) i) → (k ≤ i) → va_P D vwCl (wG cI cZ cO ad n np nq F) H → va_S (fun _ => False) s.heap H locs → lv_has ls 4 [(0, .ref (ad 0)), (1, .int v), (2, .int (nI k)), (3, .int (nI i))] → W p l e R s m args below meth c H locs 0 0 Q (F0 m 4 ls []) := by
    intro fu
    induction fu with
    | zero => intro _ _ _ _ _ h; exact absurd h (Nat.not_lt_zero _)
    | succ fu ih4 =>
      intro k i H locs ls hm4 h1 h2 h3 hP  hS hl
      refine lv_iload_n hx hb dX0_piecesAt_4 rfl (lv_at hl 3 rfl) ?_
      refine lv_aload_n hx hb dX0_piecesAt_5 rfl (lv_at hl 0 rfl) ?_
      refine va_get (D := D) (ci := 0) (v := .int (nI np)) (C := RX0) (T := TX0) (N := 16) hx hb hts hiw hown hK hP 0 g_at0 rfl 4 (by decide) (hts (.fieldLink RX0 107 "GloveCutters" "pieces" "I") (by decide +kernel)) (fun _ h9 => h9) rfl dX0_piecesAt_6 ?_
      refine nv_icmp_ge (tgt := 31) hx hb (by omega) (by omega) dX0_piecesAt_9 (by decide) (fun c_1 => ?_) (fun c_1 => ?_)
      · refine lv_iload_n hx hb dX0_piecesAt_31 rfl (lv_at hl 2 rfl) ?_
        rw [← hQ]
        exact W.iret (v := nI k) hx hb hr (fun t ht hW => ⟨⟨nI k, (), rfl, (by rw [h2, show i = np by omega]; rfl), trivial⟩, hS.F ht⟩) hS.2.2 dX0_piecesAt_32
      · refine lv_aload_n hx hb dX0_piecesAt_12 rfl (lv_at hl 0 rfl) ?_
        refine va_get (D := D) (ci := 0) (v := .ref (ad 6)) (C := RX0) (T := TX0) (N := 16) hx hb hts hiw hown hK hP 0 g_at0 rfl 7 (by decide) (hts (.fieldLink RX0 27 "GloveCutters" "pieceWhere" "[I") (by decide +kernel)) (fun _ h9 => h9) rfl dX0_piecesAt_13 ?_
        refine lv_iload_n hx hb dX0_piecesAt_16 rfl (lv_at hl 3 rfl) ?_
        refine nv_iald hx hb hK hP 6 0 g_at6 rfl (by omega) (by omega) dX0_piecesAt_17 ?_
        refine lv_iload_n hx hb dX0_piecesAt_18 rfl (lv_at hl 1 rfl) ?_
        refine lv_icmp_ne (tgt := 25) hx hb dX0_piecesAt_19 (by decide) (fun c_2 => ?_) (fun c_2 => ?_)
        · refine lv_iinc (k := 3) (v := nI (i + 1)) (lv' := [(3, .int (nI (i + 1))), (0, .ref (ad 0)), (1, .int v), (2, .int (nI k))]) hx hb dX0_piecesAt_25 hl rfl (nI_add i 1) (by decide) rfl (fun ls hl => ?_)
          refine lv_goto (tgt := 4) hx hb dX0_piecesAt_28 (by decide) ?_
          exact ih4 k (i + 1) _ _ _ (by omega) (by omega) (by rw [h2]; exact (cn_f (beq_f c_2)).symm) (by omega) hP hS (lv_sub hl [1, 2, 3, 0] rfl)
        · refine lv_iinc (k := 2) (v := nI (k + 1)) (lv' := [(2, .int (nI (k + 1))), (0, .ref (ad 0)), (1, .int v), (3, .int (nI i))]) hx hb dX0_piecesAt_22 hl rfl (nI_add k 1) (by decide) rfl (fun ls hl => ?_)
          refine lv_iinc (k := 3) (v := nI (i + 1)) (lv' := [(3, .int (nI (i + 1))), (2, .int (nI (k + 1))), (0, .ref (ad 0)), (1, .int v)]) hx hb dX0_piecesAt_25 hl rfl (nI_add i 1) (by decide) rfl (fun ls hl => ?_)
          refine lv_goto (tgt := 4) hx hb dX0_piecesAt_28 (by decide) ?_
          exact ih4 (k + 1) (i + 1) _ _ _ (by omega) (by omega) (by rw [h2]; exact (cn_t (beq_t c_2)).symm) (by omega) hP hS (lv_sub hl [2, 3, 1, 0] rfl)
  exact L4 _ 0 0 _ _ _ (Nat.lt_succ_self _) (by omega) rfl (by omega) hP hS (lv_sub hl [2, 3, 1, 0] rfl)
set_option maxHeartbeats 4000000 in
set_option maxRecDepth 100000 in
/-- pairsInUse -/
theorem c_X0_pairsInUse (l : Launch) (D : va_G) (cI cZ cO : ClassId) (ad : Nat → Nat) (n np nq : Nat) (F : Nat → Nat → Int32) (hnq : nq ≤ 20) : Met l yX0_pairsInUse wsX0_pairsInUse ({ frames := 0, cells := 0, slots := 0, locals := 0 } : Room) (va_Pc [.ref (ad 0)] (Pr D (gT cI cZ cO) (wG cI cZ cO ad n np nq F) V0)) (va_Qi (S := Unit) (fun (r : Int32) (_ : Unit) => r = nI (pUse F nq)) (fun _ _ => True) (fun _ => False)) 0 0 (fun _ => False) := by
  refine Met.ofW (cc := cX0_pairsInUse) (maxL := 3) (ret := (some .int)) (by decide) rfl ?_
  intro p e s m args below meth c s₁ B hml hv
  obtain ⟨hargs, hP, hK, hV⟩ := hv
  have hx := B.exec
  have hb := B.bytes
  have hr := B.returns
  have hts := atoms_spec (ws := wsX0_pairsInUse) B.pre
  have hown : s.vm.findClass RX0 = some m.cls := findClass_of_methodNamed B.named
  have hlocks := B.notSynchronized
  have hS : va_S (fun _ => False) s.heap s.heap [] := va_S.rf
  have hiw : ∀ w ∈ wsX00, w ∈ wsX0_pairsInUse := (fun _ h => List.mem_cons_of_mem _ (List.mem_append_right _ h))
  have hRf : 0 ≤ (headSpec wsX0_pairsInUse ({ frames := 0, cells := 0, slots := 0, locals := 0 } : Room)).room.frames := Nat.le_refl _
  have hRl : 0 ≤ (headSpec wsX0_pairsInUse ({ frames := 0, cells := 0, slots := 0, locals := 0 } : Room)).room.locals := Nat.le_refl _
  have hRc : 0 ≤ (headSpec wsX0_pairsInUse ({ frames := 0, cells := 0, slots := 0, locals := 0 } : Room)).room.cells := Nat.le_refl _
  have hRs : 0 ≤ (headSpec wsX0_pairsInUse ({ frames := 0, cells := 0, slots := 0, locals := 0 } : Room)).room.slots := Nat.le_refl _
  generalize (headSpec wsX0_pairsInUse ({ frames := 0, cells := 0, slots := 0, locals := 0 } : Room)).room = R at hRf hRl hRc hRs ⊢
  have hl := lv_entry [.ref (ad 0)] (n := 3) (Nat.le_of_ble_eq_true rfl)
  refine W.eq (show entryFrame m args 3 = _ from by rw [hargs, lg_entry_eq]) ?_
  generalize (lg_sl [.ref (ad 0)] ++ List.replicate (3 - (lg_sl [.ref (ad 0)]).length) Slot.unset).toArray = ls at hl ⊢
  have hl : lv_has ls 3 [(0, .ref (ad 0))] := hl
  generalize hQ : MQ _ _ _ _ _ _ _ = Q
  refine lv_iconst (v := nI 0) hx hb dX0_pairsInUse_0 (by decide) ?_
  refine lv_istore_n (lv' := [(1, .int (nI 0)), (0, .ref (ad 0))]) hx hb dX0_pairsInUse_1 rfl hl (by decide) rfl (fun ls hl => ?_)
  refine lv_iconst (v := nI 0) hx hb dX0_pairsInUse_2 (by decide) ?_
  refine lv_istore_n (lv' := [(2, .int (nI 0)), (1, .int (nI 0)), (0, .ref (ad 0))]) hx hb dX0_pairsInUse_3 rfl hl (by decide) rfl (fun ls hl => ?_)
  have L4 : ∀ (fu : Nat) (k : Nat) (i : Nat) (H : Heap) (locs : List Loc) (ls : Array Slot), nq - i < fu → (i ≤ nq) → (k = cn (fun q => F 12 q == 0) i) → (k ≤ i) → va_P D vwCl (wG cI cZ cO ad n np nq F) H → va_S (fun _ => False) s.heap H locs → lv_has ls 3 [(0, .ref (ad 0)), (1, .int (nI k)), (2, .int (nI i))] → W p l e R s m args below meth c H locs 0 0 Q (F0 m 4 ls []) := by
    intro fu
    induction fu with
    | zero => intro _ _ _ _ _ h; exact absurd h (Nat.not_lt_zero _)
    | succ fu ih4 =>
      intro k i H locs ls hm4 h1 h2 h3 hP  hS hl
      refine lv_iload_n hx hb dX0_pairsInUse_4 rfl (lv_at hl 2 rfl) ?_
      refine lv_aload_n hx hb dX0_pairsInUse_5 rfl (lv_at hl 0 rfl) ?_
      refine va_get (D := D) (ci := 0) (v := .int (nI nq)) (C := RX0) (T := TX0) (N := 16) hx hb hts hiw hown hK hP 0 g_at0 rfl 9 (by decide) (hts (.fieldLink RX0 136 "GloveCutters" "sewn" "I") (by decide +kernel)) (fun _ h9 => h9) rfl dX0_pairsInUse_6 ?_
      refine nv_icmp_ge (tgt := 30) hx hb (by omega) (by omega) dX0_pairsInUse_9 (by decide) (fun c_1 => ?_) (fun c_1 => ?_)
      · refine lv_iload_n hx hb dX0_pairsInUse_30 rfl (lv_at hl 1 rfl) ?_
        rw [← hQ]
        exact W.iret (v := nI k) hx hb hr (fun t ht hW => ⟨⟨nI k, (), rfl, (by rw [h2, show i = nq by omega]; rfl), trivial⟩, hS.F ht⟩) hS.2.2 dX0_pairsInUse_31
      · refine lv_aload_n hx hb dX0_pairsInUse_12 rfl (lv_at hl 0 rfl) ?_
        refine va_get (D := D) (ci := 0) (v := .ref (ad 12)) (C := RX0) (T := TX0) (N := 16) hx hb hts hiw hown hK hP 0 g_at0 rfl 14 (by decide) (hts (.fieldLink RX0 45 "GloveCutters" "pairRipped" "[Z") (by decide +kernel)) (fun _ h9 => h9) rfl dX0_pairsInUse_13 ?_
        refine lv_iload_n hx hb dX0_pairsInUse_16 rfl (lv_at hl 2 rfl) ?_
        refine nv_zald hx hb hK hP 12 1 g_at12 rfl (by omega) (by decide) dX0_pairsInUse_17 ?_
        refine lv_if_ne (tgt := 24) hx hb dX0_pairsInUse_18 (by decide) (fun c_2 => ?_) (fun c_2 => ?_)
        · refine lv_iinc (k := 2) (v := nI (i + 1)) (lv' := [(2, .int (nI (i + 1))), (0, .ref (ad 0)), (1, .int (nI k))]) hx hb dX0_pairsInUse_24 hl rfl (nI_add i 1) (by decide) rfl (fun ls hl => ?_)
          refine lv_goto (tgt := 4) hx hb dX0_pairsInUse_27 (by decide) ?_
          exact ih4 k (i + 1) _ _ _ (by omega) (by omega) (by rw [h2]; exact (cn_f (beq_f c_2)).symm) (by omega) hP hS (lv_sub hl [1, 2, 0] rfl)
        · refine lv_iinc (k := 1) (v := nI (k + 1)) (lv' := [(1, .int (nI (k + 1))), (0, .ref (ad 0)), (2, .int (nI i))]) hx hb dX0_pairsInUse_21 hl rfl (nI_add k 1) (by decide) rfl (fun ls hl => ?_)
          refine lv_iinc (k := 2) (v := nI (i + 1)) (lv' := [(2, .int (nI (i + 1))), (1, .int (nI (k + 1))), (0, .ref (ad 0))]) hx hb dX0_pairsInUse_24 hl rfl (nI_add i 1) (by decide) rfl (fun ls hl => ?_)
          refine lv_goto (tgt := 4) hx hb dX0_pairsInUse_27 (by decide) ?_
          exact ih4 (k + 1) (i + 1) _ _ _ (by omega) (by omega) (by rw [h2]; exact (cn_t (beq_t c_2)).symm) (by omega) hP hS (lv_sub hl [2, 1, 0] rfl)
  exact L4 _ 0 0 _ _ _ (Nat.lt_succ_self _) (by omega) rfl (by omega) hP hS (lv_sub hl [2, 1, 0] rfl)
set_option maxHeartbeats 4000000 in
set_option maxRecDepth 100000 in
/-- tellCount -/
theorem c_X0_tellCount (l : Launch) (D : va_G) (cI cZ cO : ClassId) (ad : Nat → Nat) (n np nq : Nat) (F : Nat → Nat → Int32) (w : Nat) (hnp : np ≤ 150) (hnq : nq ≤ 20) (hw : w < 7) : Met l yX0_tellCount wsX0_tellCount ({ frames := 1, cells := 0, slots := 0, locals := 23 } : Room) (va_Pc [.ref (ad 0), .int (nI w)] (Pr D (gT cI cZ cO) (wG cI cZ cO ad n np nq F) V0)) (va_Qi (S := Unit) (fun (r : Int32) (_ : Unit) => r = cnT n np nq F w) (fun _ _ => True) (fun _ => False)) 0 0 (fun _ => False) := by
  refine Met.ofW (cc := cX0_tellCount) (maxL := 2) (ret := (some .int)) (by decide) rfl ?_
  intro p e s m args below meth c s₁ B hml hv
  obtain ⟨hargs, hP, hK, hV⟩ := hv
  have hx := B.exec
  have hb := B.bytes
  have hr := B.returns
  have hts := atoms_spec (ws := wsX0_tellCount) B.pre
  have hown : s.vm.findClass RX0 = some m.cls := findClass_of_methodNamed B.named
  have hlocks := B.notSynchronized
  have hS : va_S (fun _ => False) s.heap s.heap [] := va_S.rf
  have hiw : ∀ w ∈ wsX00, w ∈ wsX0_tellCount := (fun _ h => List.mem_cons_of_mem _ (List.mem_append_right _ h))
  have hRf : 1 ≤ (headSpec wsX0_tellCount ({ frames := 1, cells := 0, slots := 0, locals := 23 } : Room)).room.frames := Nat.le_refl _
  have hRl : 23 ≤ (headSpec wsX0_tellCount ({ frames := 1, cells := 0, slots := 0, locals := 23 } : Room)).room.locals := Nat.le_refl _
  have hRc : 0 ≤ (headSpec wsX0_tellCount ({ frames := 1, cells := 0, slots := 0, locals := 23 } : Room)).room.cells := Nat.le_refl _
  have hRs : 0 ≤ (headSpec wsX0_tellCount ({ frames := 1, cells := 0, slots := 0, locals := 23 } : Room)).room.slots := Nat.le_refl _
  generalize (headSpec wsX0_tellCount ({ frames := 1, cells := 0, slots := 0, locals := 23 } : Room)).room = R at hRf hRl hRc hRs ⊢
  have hl := lv_entry [.ref (ad 0), .int (nI w)] (n := 2) (Nat.le_of_ble_eq_true rfl)
  refine W.eq (show entryFrame m args 2 = _ from by rw [hargs, lg_entry_eq]) ?_
  generalize (lg_sl [.ref (ad 0), .int (nI w)] ++ List.replicate (2 - (lg_sl [.ref (ad 0), .int (nI w)]).length) Slot.unset).toArray = ls at hl ⊢
  have hl : lv_has ls 2 [(0, .ref (ad 0)), (1, .int (nI w))] := hl
  generalize hQ : MQ _ _ _ _ _ _ _ = Q
  have hp2 := pAt_2 F np
  refine lv_iload_n hx hb dX0_tellCount_0 rfl (lv_at hl 1 rfl) ?_
  rcases (show w = 0 ∨ w = 1 ∨ w = 2 ∨ w = 3 ∨ w = 4 ∨ w = 5 ∨ w = 6 by omega) with rfl | rfl | rfl | rfl | rfl | rfl | rfl
  · refine lv_tableIn (off := 39) (tgt := 40) hx hb dX0_tellCount_1 (by decide) (by decide) (by decide) (by decide) ?_
    refine lv_aload_n hx hb dX0_tellCount_40 rfl (lv_at hl 0 rfl) ?_
    refine va_get (D := D) (ci := 0) (v := .int (nI n)) (C := RX0) (T := TX0) (N := 16) hx hb hts hiw hown hK hP 0 g_at0 rfl 0 (by decide) (hts (.fieldLink RX0 56 "GloveCutters" "skins" "I") (by decide +kernel)) (fun _ h9 => h9) rfl dX0_tellCount_41 ?_
    rw [← hQ]
    exact W.iret (v := nI n) hx hb hr (fun t ht hW => ⟨⟨nI n, (), rfl, rfl, trivial⟩, hS.F ht⟩) hS.2.2 dX0_tellCount_44
  · refine lv_tableIn (off := 44) (tgt := 45) hx hb dX0_tellCount_1 (by decide) (by decide) (by decide) (by decide) ?_
    refine lv_aload_n hx hb dX0_tellCount_45 rfl (lv_at hl 0 rfl) ?_
    refine va_get (D := D) (ci := 0) (v := .int (nI np)) (C := RX0) (T := TX0) (N := 16) hx hb hts hiw hown hK hP 0 g_at0 rfl 4 (by decide) (hts (.fieldLink RX0 107 "GloveCutters" "pieces" "I") (by decide +kernel)) (fun _ h9 => h9) rfl dX0_tellCount_46 ?_
    rw [← hQ]
    exact W.iret (v := nI np) hx hb hr (fun t ht hW => ⟨⟨nI np, (), rfl, rfl, trivial⟩, hS.F ht⟩) hS.2.2 dX0_tellCount_49
  · refine lv_tableIn (off := 49) (tgt := 50) hx hb dX0_tellCount_1 (by decide) (by decide) (by decide) (by decide) ?_
    refine lv_aload_n hx hb dX0_tellCount_50 rfl (lv_at hl 0 rfl) ?_
    refine lv_iconst (v := -1) hx hb dX0_tellCount_51 (by decide) ?_
    refine va_calli (va_runV (As := [.int (-1)]) (rest := []) ⟨hx, hb, hml, hown, hts⟩ (c_X0_piecesAt l D cI cZ cO ad n np nq F (-1) hnp) (cwV 1 hts gX0_tellCount_X0_piecesAt rfl rfl rfl (by decide +kernel) ⟨Nat.le_trans (Nat.le_of_ble_eq_true rfl) hRf, Nat.le_trans (Nat.le_of_ble_eq_true rfl) hRl⟩) (pr_V hP (ci := 0) (q0 := 0) rfl g_at0 rfl hP hK [0, 1, 2] rfl V0_at V0_c) rfl rfl hl.1 rfl (lv_room (Nat.le_of_ble_eq_true rfl)) dX0_tellCount_52 ⟨Nat.le_trans (Nat.zero_le _) hRc, Nat.le_trans (Nat.zero_le _) hRs⟩) hS (fun _ _ h => h.elim) (fun _ h => h.elim) (fun r_1 _ t H1 locs ht hvm hw_1 hB hz hk hS => ?_)
    have hP := P_kept hP hk
    obtain rfl := hw_1
    rw [← hQ]
    exact W.iret (v := nI (pAt F np (-1))) hx hb hr (fun t ht hW => ⟨⟨nI (pAt F np (-1)), (), rfl, rfl, trivial⟩, hS.F ht⟩) hS.2.2 dX0_tellCount_55
  · refine lv_tableIn (off := 55) (tgt := 56) hx hb dX0_tellCount_1 (by decide) (by decide) (by decide) (by decide) ?_
    refine lv_aload_n hx hb dX0_tellCount_56 rfl (lv_at hl 0 rfl) ?_
    refine va_get (D := D) (ci := 0) (v := .int (nI np)) (C := RX0) (T := TX0) (N := 16) hx hb hts hiw hown hK hP 0 g_at0 rfl 4 (by decide) (hts (.fieldLink RX0 107 "GloveCutters" "pieces" "I") (by decide +kernel)) (fun _ h9 => h9) rfl dX0_tellCount_57 ?_
    refine lv_aload_n hx hb dX0_tellCount_60 rfl (lv_at hl 0 rfl) ?_
    refine lv_iconst (v := -1) hx hb dX0_tellCount_61 (by decide) ?_
    refine va_calli (va_runV (As := [.int (-1)]) (rest := [.int (nI np)]) ⟨hx, hb, hml, hown, hts⟩ (c_X0_piecesAt l D cI cZ cO ad n np nq F (-1) hnp) (cwV 1 hts gX0_tellCount_X0_piecesAt rfl rfl rfl (by decide +kernel) ⟨Nat.le_trans (Nat.le_of_ble_eq_true rfl) hRf, Nat.le_trans (Nat.le_of_ble_eq_true rfl) hRl⟩) (pr_V hP (ci := 0) (q0 := 0) rfl g_at0 rfl hP hK [0, 1, 2] rfl V0_at V0_c) rfl rfl hl.1 rfl (lv_room (Nat.le_of_ble_eq_true rfl)) dX0_tellCount_62 ⟨Nat.le_trans (Nat.zero_le _) hRc, Nat.le_trans (Nat.zero_le _) hRs⟩) hS (fun _ _ h => h.elim) (fun _ h => h.elim) (fun r_2 _ t H1 locs ht hvm hw_2 hB hz hk hS => ?_)
    have hP := P_kept hP hk
    obtain rfl := hw_2
    refine nv_isub hx hb (by omega) dX0_tellCount_65 ?_
    refine lv_aload_n hx hb dX0_tellCount_66 rfl (lv_at hl 0 rfl) ?_
    refine lv_bipush (v := -2) hx hb dX0_tellCount_67 (by decide) ?_
    refine va_calli (va_runV (As := [.int (-2)]) (rest := [.int (nI (np - (pAt F np (-1))))]) ⟨hx, hb, hml, hown, hts⟩ (c_X0_piecesAt l D cI cZ cO ad n np nq F (-2) hnp) (cwV 1 hts gX0_tellCount_X0_piecesAt rfl rfl rfl (by decide +kernel) ⟨Nat.le_trans (Nat.le_of_ble_eq_true rfl) hRf, Nat.le_trans (Nat.le_of_ble_eq_true rfl) hRl⟩) (pr_V hP (ci := 0) (q0 := 0) rfl g_at0 rfl hP hK [0, 1, 2] rfl V0_at V0_c) rfl rfl hl.1 rfl (lv_room (Nat.le_of_ble_eq_true rfl)) dX0_tellCount_69 ⟨Nat.le_trans (Nat.zero_le _) hRc, Nat.le_trans (Nat.zero_le _) hRs⟩) hS (fun _ _ h => h.elim) (fun _ h => h.elim) (fun r_3 _ t H1 locs ht hvm hw_3 hB hz hk hS => ?_)
    have hP := P_kept hP hk
    obtain rfl := hw_3
    refine nv_isub hx hb (by omega) dX0_tellCount_72 ?_
    rw [← hQ]
    exact W.iret (v := nI ((np - (pAt F np (-1))) - (pAt F np (-2)))) hx hb hr (fun t ht hW => ⟨⟨nI ((np - (pAt F np (-1))) - (pAt F np (-2))), (), rfl, rfl, trivial⟩, hS.F ht⟩) hS.2.2 dX0_tellCount_73
  · refine lv_tableIn (off := 73) (tgt := 74) hx hb dX0_tellCount_1 (by decide) (by decide) (by decide) (by decide) ?_
    refine lv_aload_n hx hb dX0_tellCount_74 rfl (lv_at hl 0 rfl) ?_
    refine lv_bipush (v := -2) hx hb dX0_tellCount_75 (by decide) ?_
    refine va_calli (va_runV (As := [.int (-2)]) (rest := []) ⟨hx, hb, hml, hown, hts⟩ (c_X0_piecesAt l D cI cZ cO ad n np nq F (-2) hnp) (cwV 1 hts gX0_tellCount_X0_piecesAt rfl rfl rfl (by decide +kernel) ⟨Nat.le_trans (Nat.le_of_ble_eq_true rfl) hRf, Nat.le_trans (Nat.le_of_ble_eq_true rfl) hRl⟩) (pr_V hP (ci := 0) (q0 := 0) rfl g_at0 rfl hP hK [0, 1, 2] rfl V0_at V0_c) rfl rfl hl.1 rfl (lv_room (Nat.le_of_ble_eq_true rfl)) dX0_tellCount_77 ⟨Nat.le_trans (Nat.zero_le _) hRc, Nat.le_trans (Nat.zero_le _) hRs⟩) hS (fun _ _ h => h.elim) (fun _ h => h.elim) (fun r_4 _ t H1 locs ht hvm hw_4 hB hz hk hS => ?_)
    have hP := P_kept hP hk
    obtain rfl := hw_4
    rw [← hQ]
    exact W.iret (v := nI (pAt F np (-2))) hx hb hr (fun t ht hW => ⟨⟨nI (pAt F np (-2)), (), rfl, rfl, trivial⟩, hS.F ht⟩) hS.2.2 dX0_tellCount_80
  · refine lv_tableIn (off := 80) (tgt := 81) hx hb dX0_tellCount_1 (by decide) (by decide) (by decide) (by decide) ?_
    refine lv_aload_n hx hb dX0_tellCount_81 rfl (lv_at hl 0 rfl) ?_
    refine va_get (D := D) (ci := 0) (v := .int (nI nq)) (C := RX0) (T := TX0) (N := 16) hx hb hts hiw hown hK hP 0 g_at0 rfl 9 (by decide) (hts (.fieldLink RX0 136 "GloveCutters" "sewn" "I") (by decide +kernel)) (fun _ h9 => h9) rfl dX0_tellCount_82 ?_
    rw [← hQ]
    exact W.iret (v := nI nq) hx hb hr (fun t ht hW => ⟨⟨nI nq, (), rfl, rfl, trivial⟩, hS.F ht⟩) hS.2.2 dX0_tellCount_85
  · refine lv_tableOut (tgt := 86) hx hb dX0_tellCount_1 (by decide) (by decide) ?_
    refine lv_aload_n hx hb dX0_tellCount_86 rfl (lv_at hl 0 rfl) ?_
    refine va_calli (va_runV (As := []) (rest := []) ⟨hx, hb, hml, hown, hts⟩ (c_X0_pairsInUse l D cI cZ cO ad n np nq F hnq) (cwV 0 hts gX0_tellCount_X0_pairsInUse rfl rfl rfl (by decide +kernel) ⟨Nat.le_trans (Nat.le_of_ble_eq_true rfl) hRf, Nat.le_trans (Nat.le_of_ble_eq_true rfl) hRl⟩) (pr_V hP (ci := 0) (q0 := 0) rfl g_at0 rfl hP hK [0, 1, 2] rfl V0_at V0_c) rfl rfl hl.1 rfl (lv_room (Nat.le_of_ble_eq_true rfl)) dX0_tellCount_87 ⟨Nat.le_trans (Nat.zero_le _) hRc, Nat.le_trans (Nat.zero_le _) hRs⟩) hS (fun _ _ h => h.elim) (fun _ h => h.elim) (fun r_5 _ t H1 locs ht hvm hw_5 hB hz hk hS => ?_)
    have hP := P_kept hP hk
    obtain rfl := hw_5
    rw [← hQ]
    exact W.iret (v := nI (pUse F nq)) hx hb hr (fun t ht hW => ⟨⟨nI (pUse F nq), (), rfl, rfl, trivial⟩, hS.F ht⟩) hS.2.2 dX0_tellCount_90
set_option maxHeartbeats 4000000 in
set_option maxRecDepth 100000 in
/-- wideOf -/
theorem c_X0_wideOf (l : Launch) (D : va_G) (kd : Nat) (tb : Bool) (hkd : kd < 4) : Met l yX0_wideOf wsX0_wideOf ({ frames := 0, cells := 0, slots := 0, locals := 0 } : Room) (va_Pc [.int (nI kd), .int (bI tb)] (Pr D [] [] (EnvG (fun _ => False)))) (va_Qi (S := Unit) (fun (r : Int32) (_ : Unit) => r = nI (wd kd tb)) (fun _ _ => True) (fun _ => False)) 0 0 (fun _ => False) := by
  refine Met.ofW (cc := cX0_wideOf) (maxL := 2) (ret := (some .int)) (by decide) rfl ?_
  intro p e s m args below meth c s₁ B hml hv
  obtain ⟨hargs, hP, hK, hV⟩ := hv
  have hx := B.exec
  have hb := B.bytes
  have hr := B.returns
  have hts := atoms_spec (ws := wsX0_wideOf) B.pre
  have hown : s.vm.findClass RX0 = some m.cls := findClass_of_methodNamed B.named
  have hlocks := B.notSynchronized
  have hS : va_S (fun _ => False) s.heap s.heap [] := va_S.rf
  have hV0 : EnvG (fun _ => False) s := EnvG.nar hV sub_no
  have hRf : 0 ≤ (headSpec wsX0_wideOf ({ frames := 0, cells := 0, slots := 0, locals := 0 } : Room)).room.frames := Nat.le_refl _
  have hRl : 0 ≤ (headSpec wsX0_wideOf ({ frames := 0, cells := 0, slots := 0, locals := 0 } : Room)).room.locals := Nat.le_refl _
  have hRc : 0 ≤ (headSpec wsX0_wideOf ({ frames := 0, cells := 0, slots := 0, locals := 0 } : Room)).room.cells := Nat.le_refl _
  have hRs : 0 ≤ (headSpec wsX0_wideOf ({ frames := 0, cells := 0, slots := 0, locals := 0 } : Room)).room.slots := Nat.le_refl _
  generalize (headSpec wsX0_wideOf ({ frames := 0, cells := 0, slots := 0, locals := 0 } : Room)).room = R at hRf hRl hRc hRs ⊢
  have hl := lv_entry [.int (nI kd), .int (bI tb)] (n := 2) (Nat.le_of_ble_eq_true rfl)
  refine W.eq (show entryFrame m args 2 = _ from by rw [hargs, lg_entry_eq]) ?_
  generalize (lg_sl [.int (nI kd), .int (bI tb)] ++ List.replicate (2 - (lg_sl [.int (nI kd), .int (bI tb)]).length) Slot.unset).toArray = ls at hl ⊢
  have hl : lv_has ls 2 [(0, .int (nI kd)), (1, .int (bI tb))] := hl
  generalize hQ : MQ _ _ _ _ _ _ _ = Q
  refine lv_iload_n hx hb dX0_wideOf_0 rfl (lv_at hl 1 rfl) ?_
  refine nb_if_eq (tgt := 12) hx hb dX0_wideOf_1 (by decide) (fun c_1 => ?_) (fun c_1 => ?_)
  · obtain ⟨tb_KIND_WIDE, hKIND_WIDEZ, hKIND_WIDET⟩ := hV0.1
    refine va_gets hx hb hKIND_WIDEZ hS hown (hts (.fieldLink RX0 207 "GloveCutters" "KIND_WIDE" "[I") (by decide +kernel)) (fun _ h9 => h9) dX0_wideOf_12 ?_
    refine lv_iload_n hx hb dX0_wideOf_15 rfl (lv_at hl 0 rfl) ?_
    refine nv_tab hx hb hKIND_WIDET hS (by omega) dX0_wideOf_16 ?_
    rw [← hQ]
    exact W.iret (v := nI (kW kd)) hx hb hr (fun t ht hW => ⟨⟨nI (kW kd), (), rfl, (by rw [c_1]; rfl), trivial⟩, hS.F ht⟩) hS.2.2 dX0_wideOf_17
  · obtain ⟨tb_KIND_HIGH, hKIND_HIGHZ, hKIND_HIGHT⟩ := hV0.2.1
    refine va_gets hx hb hKIND_HIGHZ hS hown (hts (.fieldLink RX0 204 "GloveCutters" "KIND_HIGH" "[I") (by decide +kernel)) (fun _ h9 => h9) dX0_wideOf_4 ?_
    refine lv_iload_n hx hb dX0_wideOf_7 rfl (lv_at hl 0 rfl) ?_
    refine nv_tab hx hb hKIND_HIGHT hS (by omega) dX0_wideOf_8 ?_
    refine lv_goto (tgt := 17) hx hb dX0_wideOf_9 (by decide) ?_
    rw [← hQ]
    exact W.iret (v := nI (kH kd)) hx hb hr (fun t ht hW => ⟨⟨nI (kH kd), (), rfl, (by rw [c_1]; rfl), trivial⟩, hS.F ht⟩) hS.2.2 dX0_wideOf_17
set_option maxHeartbeats 4000000 in
set_option maxRecDepth 100000 in
/-- highOf -/
theorem c_X0_highOf (l : Launch) (D : va_G) (kd : Nat) (tb : Bool) (hkd : kd < 4) : Met l yX0_highOf wsX0_highOf ({ frames := 0, cells := 0, slots := 0, locals := 0 } : Room) (va_Pc [.int (nI kd), .int (bI tb)] (Pr D [] [] (EnvG (fun _ => False)))) (va_Qi (S := Unit) (fun (r : Int32) (_ : Unit) => r = nI (hg kd tb)) (fun _ _ => True) (fun _ => False)) 0 0 (fun _ => False) := by
  refine Met.ofW (cc := cX0_highOf) (maxL := 2) (ret := (some .int)) (by decide) rfl ?_
  intro p e s m args below meth c s₁ B hml hv
  obtain ⟨hargs, hP, hK, hV⟩ := hv
  have hx := B.exec
  have hb := B.bytes
  have hr := B.returns
  have hts := atoms_spec (ws := wsX0_highOf) B.pre
  have hown : s.vm.findClass RX0 = some m.cls := findClass_of_methodNamed B.named
  have hlocks := B.notSynchronized
  have hS : va_S (fun _ => False) s.heap s.heap [] := va_S.rf
  have hV0 : EnvG (fun _ => False) s := EnvG.nar hV sub_no
  have hRf : 0 ≤ (headSpec wsX0_highOf ({ frames := 0, cells := 0, slots := 0, locals := 0 } : Room)).room.frames := Nat.le_refl _
  have hRl : 0 ≤ (headSpec wsX0_highOf ({ frames := 0, cells := 0, slots := 0, locals := 0 } : Room)).room.locals := Nat.le_refl _
  have hRc : 0 ≤ (headSpec wsX0_highOf ({ frames := 0, cells := 0, slots := 0, locals := 0 } : Room)).room.cells := Nat.le_refl _
  have hRs : 0 ≤ (headSpec wsX0_highOf ({ frames := 0, cells := 0, slots := 0, locals := 0 } : Room)).room.slots := Nat.le_refl _
  generalize (headSpec wsX0_highOf ({ frames := 0, cells := 0, slots := 0, locals := 0 } : Room)).room = R at hRf hRl hRc hRs ⊢
  have hl := lv_entry [.int (nI kd), .int (bI tb)] (n := 2) (Nat.le_of_ble_eq_true rfl)
  refine W.eq (show entryFrame m args 2 = _ from by rw [hargs, lg_entry_eq]) ?_
  generalize (lg_sl [.int (nI kd), .int (bI tb)] ++ List.replicate (2 - (lg_sl [.int (nI kd), .int (bI tb)]).length) Slot.unset).toArray = ls at hl ⊢
  have hl : lv_has ls 2 [(0, .int (nI kd)), (1, .int (bI tb))] := hl
  generalize hQ : MQ _ _ _ _ _ _ _ = Q
  refine lv_iload_n hx hb dX0_highOf_0 rfl (lv_at hl 1 rfl) ?_
  refine nb_if_eq (tgt := 12) hx hb dX0_highOf_1 (by decide) (fun c_1 => ?_) (fun c_1 => ?_)
  · obtain ⟨tb_KIND_HIGH, hKIND_HIGHZ, hKIND_HIGHT⟩ := hV0.2.1
    refine va_gets hx hb hKIND_HIGHZ hS hown (hts (.fieldLink RX0 204 "GloveCutters" "KIND_HIGH" "[I") (by decide +kernel)) (fun _ h9 => h9) dX0_highOf_12 ?_
    refine lv_iload_n hx hb dX0_highOf_15 rfl (lv_at hl 0 rfl) ?_
    refine nv_tab hx hb hKIND_HIGHT hS (by omega) dX0_highOf_16 ?_
    rw [← hQ]
    exact W.iret (v := nI (kH kd)) hx hb hr (fun t ht hW => ⟨⟨nI (kH kd), (), rfl, (by rw [c_1]; rfl), trivial⟩, hS.F ht⟩) hS.2.2 dX0_highOf_17
  · obtain ⟨tb_KIND_WIDE, hKIND_WIDEZ, hKIND_WIDET⟩ := hV0.1
    refine va_gets hx hb hKIND_WIDEZ hS hown (hts (.fieldLink RX0 207 "GloveCutters" "KIND_WIDE" "[I") (by decide +kernel)) (fun _ h9 => h9) dX0_highOf_4 ?_
    refine lv_iload_n hx hb dX0_highOf_7 rfl (lv_at hl 0 rfl) ?_
    refine nv_tab hx hb hKIND_WIDET hS (by omega) dX0_highOf_8 ?_
    refine lv_goto (tgt := 17) hx hb dX0_highOf_9 (by decide) ?_
    rw [← hQ]
    exact W.iret (v := nI (kW kd)) hx hb hr (fun t ht hW => ⟨⟨nI (kW kd), (), rfl, (by rw [c_1]; rfl), trivial⟩, hS.F ht⟩) hS.2.2 dX0_highOf_17
set_option maxHeartbeats 4000000 in
set_option maxRecDepth 100000 in
/-- fits -/
theorem c_X0_fits (l : Launch) (D : va_G) (cI : ClassId) (a n : Nat) (f : Nat → Int32) (kd : Nat) (tb : Bool) (x y : Nat) (hkd : kd < 4) (hx9 : x < 12) (hy9 : y < 8) (hn9 : n = 96) : Met l yX0_fits wsX0_fits ({ frames := 1, cells := 0, slots := 0, locals := 28 } : Room) (va_Pc [.ref a, .int (nI kd), .int (bI tb), .int (nI x), .int (nI y)] (Pr D [(cI, .int)] [(a, .inl (cI, n, .inl f))] (EnvG (fun _ => False)))) (va_Qi (S := Unit) (fun (r : Int32) (_ : Unit) => r = bI (fitB f kd tb x y)) (fun _ _ => True) (fun _ => False)) 0 0 (fun _ => False) := by
  refine Met.ofW (cc := cX0_fits) (maxL := 7) (ret := (some .boolean)) (by decide) rfl ?_
  intro p e s m args below meth c s₁ B hml hv
  obtain ⟨hargs, hP, hK, hV⟩ := hv
  have hx := B.exec
  have hb := B.bytes
  have hr := B.returns
  have hts := atoms_spec (ws := wsX0_fits) B.pre
  have hown : s.vm.findClass RX0 = some m.cls := findClass_of_methodNamed B.named
  have hlocks := B.notSynchronized
  have hS : va_S (fun _ => False) s.heap s.heap [] := va_S.rf
  have hV0 : EnvG (fun _ => False) s := EnvG.nar hV sub_no
  have hRf : 1 ≤ (headSpec wsX0_fits ({ frames := 1, cells := 0, slots := 0, locals := 28 } : Room)).room.frames := Nat.le_refl _
  have hRl : 28 ≤ (headSpec wsX0_fits ({ frames := 1, cells := 0, slots := 0, locals := 28 } : Room)).room.locals := Nat.le_refl _
  have hRc : 0 ≤ (headSpec wsX0_fits ({ frames := 1, cells := 0, slots := 0, locals := 28 } : Room)).room.cells := Nat.le_refl _
  have hRs : 0 ≤ (headSpec wsX0_fits ({ frames := 1, cells := 0, slots := 0, locals := 28 } : Room)).room.slots := Nat.le_refl _
  generalize (headSpec wsX0_fits ({ frames := 1, cells := 0, slots := 0, locals := 28 } : Room)).room = R at hRf hRl hRc hRs ⊢
  have hl := lv_entry [.ref a, .int (nI kd), .int (bI tb), .int (nI x), .int (nI y)] (n := 7) (Nat.le_of_ble_eq_true rfl)
  refine W.eq (show entryFrame m args 7 = _ from by rw [hargs, lg_entry_eq]) ?_
  generalize (lg_sl [.ref a, .int (nI kd), .int (bI tb), .int (nI x), .int (nI y)] ++ List.replicate (7 - (lg_sl [.ref a, .int (nI kd), .int (bI tb), .int (nI x), .int (nI y)]).length) Slot.unset).toArray = ls at hl ⊢
  have hl : lv_has ls 7 [(0, .ref a), (1, .int (nI kd)), (2, .int (bI tb)), (3, .int (nI x)), (4, .int (nI y))] := hl
  generalize hQ : MQ _ _ _ _ _ _ _ = Q
  have hw9 := wd_le kd tb
  have hh9 := hg_le kd tb
  have hm9 := fun v : Int32 => Nat.le_trans (ct_le f (12 * y + x) (wd kd tb) v (wd kd tb * hg kd tb)) (Nat.mul_le_mul hw9.1 hh9.1)
  have hm92 := hm9 (nI 2)
  have hm93 := hm9 (nI 3)
  have hm91 := hm9 (nI 1)
  have hkT := kT_le kd
  refine lv_iload_n hx hb dX0_fits_0 rfl (lv_at hl 1 rfl) ?_
  refine lv_iload_n hx hb dX0_fits_1 rfl (lv_at hl 2 rfl) ?_
  refine va_calli (va_runS (As := [.int (nI kd), .int (bI tb)]) (rest := []) ⟨hx, hb, hml, hown, hts⟩ (c_X0_wideOf l D kd tb hkd) (va_cwS 2 hts gX0_fits_X0_wideOf rfl rfl rfl (by decide +kernel) ⟨Nat.le_trans (Nat.le_of_ble_eq_true rfl) hRf, Nat.le_trans (Nat.le_of_ble_eq_true rfl) hRl⟩) (pr_S (P_nil) hK [] rfl (hV0.at hS sub_id sub_id) EnvG_c) rfl rfl hl.1 rfl (lv_room (Nat.le_of_ble_eq_true rfl)) dX0_fits_2 ⟨Nat.le_trans (Nat.zero_le _) hRc, Nat.le_trans (Nat.zero_le _) hRs⟩) hS (fun _ _ h => h.elim) (fun _ h => h.elim) (fun r_1 _ t H1 locs ht hvm hw_1 hB hz hk hS => ?_)
  have hP := P_kept hP hk
  obtain rfl := hw_1
  refine lv_istore (lv' := [(5, .int (nI (wd kd tb))), (0, .ref a), (1, .int (nI kd)), (2, .int (bI tb)), (3, .int (nI x)), (4, .int (nI y))]) hx hb dX0_fits_5 hl (by decide) rfl (fun ls hl => ?_)
  refine lv_iload_n hx hb dX0_fits_7 rfl (lv_at hl 2 rfl) ?_
  refine lv_iload_n hx hb dX0_fits_8 rfl (lv_at hl 3 rfl) ?_
  refine va_calli (va_runS (As := [.int (nI kd), .int (bI tb)]) (rest := []) ⟨hx, hb, hml, hown, hts⟩ (c_X0_highOf l D kd tb hkd) (va_cwS 2 hts gX0_fits_X0_highOf rfl rfl rfl (by decide +kernel) ⟨Nat.le_trans (Nat.le_of_ble_eq_true rfl) hRf, Nat.le_trans (Nat.le_of_ble_eq_true rfl) hRl⟩) (pr_S (P_nil) hK [] rfl (hV0.at hS sub_id sub_id) EnvG_c) rfl rfl hl.1 rfl (lv_room (Nat.le_of_ble_eq_true rfl)) dX0_fits_9 ⟨Nat.le_trans (Nat.zero_le _) hRc, Nat.le_trans (Nat.zero_le _) hRs⟩) hS (fun _ _ h => h.elim) (fun _ h => h.elim) (fun r_2 _ t H1 locs ht hvm hw_2 hB hz hk hS => ?_)
  have hP := P_kept hP hk
  obtain rfl := hw_2
  refine lv_istore (lv' := [(6, .int (nI (hg kd tb))), (5, .int (nI (wd kd tb))), (0, .ref a), (1, .int (nI kd)), (2, .int (bI tb)), (3, .int (nI x)), (4, .int (nI y))]) hx hb dX0_fits_12 hl (by decide) rfl (fun ls hl => ?_)
  refine lv_iload hx hb dX0_fits_14 (lv_at hl 1 rfl) ?_
  refine lv_bipush (v := nI 12) hx hb dX0_fits_16 (by decide) ?_
  refine lv_iload_n hx hb dX0_fits_18 rfl (lv_at hl 5 rfl) ?_
  refine nv_isub hx hb (by omega) dX0_fits_19 ?_
  refine nv_icmp_gt (tgt := 87) hx hb (by omega) (by omega) dX0_fits_20 (by decide) (fun c_3 => ?_) (fun c_3 => ?_)
  · refine lv_iconst (v := nI 0) hx hb dX0_fits_87 (by decide) ?_
    rw [← hQ]
    exact W.zret (v := nI 0) hx hb hr rfl (fun t ht hW => ⟨⟨nI 0, (), rfl, (by rw [show fitB f kd tb x y = false from by unfold fitB; simp only [Bool.and_eq_false_iff, decide_eq_false_iff_not]; omega]; rfl), trivial⟩, hS.F ht⟩) hS.2.2 dX0_fits_88
  · refine lv_iload hx hb dX0_fits_23 (lv_at hl 0 rfl) ?_
    refine lv_bipush (v := nI 8) hx hb dX0_fits_25 (by decide) ?_
    refine lv_iload hx hb dX0_fits_27 (lv_at hl 6 rfl) ?_
    refine nv_isub hx hb (by omega) dX0_fits_29 ?_
    refine nv_icmp_gt (tgt := 87) hx hb (by omega) (by omega) dX0_fits_30 (by decide) (fun c_4 => ?_) (fun c_4 => ?_)
    · refine lv_iconst (v := nI 0) hx hb dX0_fits_87 (by decide) ?_
      rw [← hQ]
      exact W.zret (v := nI 0) hx hb hr rfl (fun t ht hW => ⟨⟨nI 0, (), rfl, (by rw [show fitB f kd tb x y = false from by unfold fitB; simp only [Bool.and_eq_false_iff, decide_eq_false_iff_not]; omega]; rfl), trivial⟩, hS.F ht⟩) hS.2.2 dX0_fits_88
    · refine lv_aload_n hx hb dX0_fits_33 rfl (lv_at hl 2 rfl) ?_
      refine lv_iload_n hx hb dX0_fits_34 rfl (lv_at hl 5 rfl) ?_
      refine lv_iload hx hb dX0_fits_35 (lv_at hl 6 rfl) ?_
      refine lv_iload hx hb dX0_fits_37 (lv_at hl 1 rfl) ?_
      refine lv_iload hx hb dX0_fits_39 (lv_at hl 0 rfl) ?_
      refine lv_iconst (v := nI 2) hx hb dX0_fits_41 (by decide) ?_
      refine va_calli (va_runS (As := [.ref a, .int (nI x), .int (nI y), .int (nI (wd kd tb)), .int (nI (hg kd tb)), .int (nI 2)]) (rest := []) ⟨hx, hb, hml, hown, hts⟩ (c_X0_tally l D cI a n f x y (wd kd tb) (hg kd tb) (nI 2) (by omega) (by omega) (by omega)) (va_cwS 6 hts gX0_fits_X0_tally rfl rfl rfl (by decide +kernel) ⟨Nat.le_trans (Nat.le_of_ble_eq_true rfl) hRf, Nat.le_trans (Nat.le_of_ble_eq_true rfl) hRl⟩) (pr_S (P_pick hP (k := 0) rfl) hK [0] rfl V0_at V0_c) rfl rfl hl.1 rfl (lv_room (Nat.le_of_ble_eq_true rfl)) dX0_fits_42 ⟨Nat.le_trans (Nat.zero_le _) hRc, Nat.le_trans (Nat.zero_le _) hRs⟩) hS (fun _ _ h => h.elim) (fun _ h => h.elim) (fun r_5 _ t H1 locs ht hvm hw_5 hB hz hk hS => ?_)
      have hP := P_kept hP hk
      obtain rfl := hw_5
      refine nv_if_ne (tgt := 87) hx hb (by omega) dX0_fits_45 (by decide) (fun c_6 => ?_) (fun c_6 => ?_)
      · refine lv_iconst (v := nI 0) hx hb dX0_fits_87 (by decide) ?_
        rw [← hQ]
        exact W.zret (v := nI 0) hx hb hr rfl (fun t ht hW => ⟨⟨nI 0, (), rfl, (by rw [show fitB f kd tb x y = false from by unfold fitB; simp only [Bool.and_eq_false_iff, decide_eq_false_iff_not]; omega]; rfl), trivial⟩, hS.F ht⟩) hS.2.2 dX0_fits_88
      · refine lv_aload_n hx hb dX0_fits_48 rfl (lv_at hl 2 rfl) ?_
        refine lv_iload_n hx hb dX0_fits_49 rfl (lv_at hl 5 rfl) ?_
        refine lv_iload hx hb dX0_fits_50 (lv_at hl 6 rfl) ?_
        refine lv_iload hx hb dX0_fits_52 (lv_at hl 1 rfl) ?_
        refine lv_iload hx hb dX0_fits_54 (lv_at hl 0 rfl) ?_
        refine lv_iconst (v := nI 3) hx hb dX0_fits_56 (by decide) ?_
        refine va_calli (va_runS (As := [.ref a, .int (nI x), .int (nI y), .int (nI (wd kd tb)), .int (nI (hg kd tb)), .int (nI 3)]) (rest := []) ⟨hx, hb, hml, hown, hts⟩ (c_X0_tally l D cI a n f x y (wd kd tb) (hg kd tb) (nI 3) (by omega) (by omega) (by omega)) (va_cwS 6 hts gX0_fits_X0_tally rfl rfl rfl (by decide +kernel) ⟨Nat.le_trans (Nat.le_of_ble_eq_true rfl) hRf, Nat.le_trans (Nat.le_of_ble_eq_true rfl) hRl⟩) (pr_S (P_pick hP (k := 0) rfl) hK [0] rfl V0_at V0_c) rfl rfl hl.1 rfl (lv_room (Nat.le_of_ble_eq_true rfl)) dX0_fits_57 ⟨Nat.le_trans (Nat.zero_le _) hRc, Nat.le_trans (Nat.zero_le _) hRs⟩) hS (fun _ _ h => h.elim) (fun _ h => h.elim) (fun r_7 _ t H1 locs ht hvm hw_7 hB hz hk hS => ?_)
        have hP := P_kept hP hk
        obtain rfl := hw_7
        refine nv_if_ne (tgt := 87) hx hb (by omega) dX0_fits_60 (by decide) (fun c_8 => ?_) (fun c_8 => ?_)
        · refine lv_iconst (v := nI 0) hx hb dX0_fits_87 (by decide) ?_
          rw [← hQ]
          exact W.zret (v := nI 0) hx hb hr rfl (fun t ht hW => ⟨⟨nI 0, (), rfl, (by rw [show fitB f kd tb x y = false from by unfold fitB; simp only [Bool.and_eq_false_iff, decide_eq_false_iff_not]; omega]; rfl), trivial⟩, hS.F ht⟩) hS.2.2 dX0_fits_88
        · refine lv_aload_n hx hb dX0_fits_63 rfl (lv_at hl 2 rfl) ?_
          refine lv_iload_n hx hb dX0_fits_64 rfl (lv_at hl 5 rfl) ?_
          refine lv_iload hx hb dX0_fits_65 (lv_at hl 6 rfl) ?_
          refine lv_iload hx hb dX0_fits_67 (lv_at hl 1 rfl) ?_
          refine lv_iload hx hb dX0_fits_69 (lv_at hl 0 rfl) ?_
          refine lv_iconst (v := nI 1) hx hb dX0_fits_71 (by decide) ?_
          refine va_calli (va_runS (As := [.ref a, .int (nI x), .int (nI y), .int (nI (wd kd tb)), .int (nI (hg kd tb)), .int (nI 1)]) (rest := []) ⟨hx, hb, hml, hown, hts⟩ (c_X0_tally l D cI a n f x y (wd kd tb) (hg kd tb) (nI 1) (by omega) (by omega) (by omega)) (va_cwS 6 hts gX0_fits_X0_tally rfl rfl rfl (by decide +kernel) ⟨Nat.le_trans (Nat.le_of_ble_eq_true rfl) hRf, Nat.le_trans (Nat.le_of_ble_eq_true rfl) hRl⟩) (pr_S (P_pick hP (k := 0) rfl) hK [0] rfl V0_at V0_c) rfl rfl hl.1 rfl (lv_room (Nat.le_of_ble_eq_true rfl)) dX0_fits_72 ⟨Nat.le_trans (Nat.zero_le _) hRc, Nat.le_trans (Nat.zero_le _) hRs⟩) hS (fun _ _ h => h.elim) (fun _ h => h.elim) (fun r_9 _ t H1 locs ht hvm hw_9 hB hz hk hS => ?_)
          have hP := P_kept hP hk
          obtain rfl := hw_9
          obtain ⟨tb_KIND_MOST_THIN, hKIND_MOST_THINZ, hKIND_MOST_THINT⟩ := hV0.2.2.1
          refine va_gets hx hb hKIND_MOST_THINZ hS hown (hts (.fieldLink RX0 210 "GloveCutters" "KIND_MOST_THIN" "[I") (by decide +kernel)) (fun _ h9 => h9) dX0_fits_75 ?_
          refine lv_iload_n hx hb dX0_fits_78 rfl (lv_at hl 3 rfl) ?_
          refine nv_tab hx hb hKIND_MOST_THINT hS (by omega) dX0_fits_79 ?_
          refine nv_icmp_gt (tgt := 87) hx hb (by omega) (by omega) dX0_fits_80 (by decide) (fun c_10 => ?_) (fun c_10 => ?_)
          · refine lv_iconst (v := nI 0) hx hb dX0_fits_87 (by decide) ?_
            rw [← hQ]
            exact W.zret (v := nI 0) hx hb hr rfl (fun t ht hW => ⟨⟨nI 0, (), rfl, (by rw [show fitB f kd tb x y = false from by unfold fitB; simp only [Bool.and_eq_false_iff, decide_eq_false_iff_not]; omega]; rfl), trivial⟩, hS.F ht⟩) hS.2.2 dX0_fits_88
          · refine lv_iconst (v := nI 1) hx hb dX0_fits_83 (by decide) ?_
            refine lv_goto (tgt := 88) hx hb dX0_fits_84 (by decide) ?_
            rw [← hQ]
            exact W.zret (v := nI 1) hx hb hr rfl (fun t ht hW => ⟨⟨nI 1, (), rfl, (by rw [show fitB f kd tb x y = true from by unfold fitB; simp only [Bool.and_eq_true, decide_eq_true_eq]; omega]; rfl), trivial⟩, hS.F ht⟩) hS.2.2 dX0_fits_88
set_option maxHeartbeats 4000000 in
set_option maxRecDepth 100000 in
/-- firstFit -/
theorem c_X0_firstFit (l : Launch) (D : va_G) (cI : ClassId) (a n : Nat) (f : Nat → Int32) (kd : Nat) (tb : Bool) (fr : Nat) (hkd : kd < 4) (hf9 : fr ≤ 96) (hn9 : n = 96) : Met l yX0_firstFit wsX0_firstFit ({ frames := 2, cells := 0, slots := 0, locals := 54 } : Room) (va_Pc [.ref a, .int (nI kd), .int (bI tb), .int (nI fr)] (Pr D [(cI, .int)] [(a, .inl (cI, n, .inl f))] (EnvG (fun _ => False)))) (va_Qi (S := Unit) (fun (r : Int32) (_ : Unit) => r = fI (fitA f kd tb) fr (96 - fr)) (fun _ _ => True) (fun _ => False)) 0 0 (fun _ => False) := by
  refine Met.ofW (cc := cX0_firstFit) (maxL := 5) (ret := (some .int)) (by decide) rfl ?_
  intro p e s m args below meth c s₁ B hml hv
  obtain ⟨hargs, hP, hK, hV⟩ := hv
  have hx := B.exec
  have hb := B.bytes
  have hr := B.returns
  have hts := atoms_spec (ws := wsX0_firstFit) B.pre
  have hown : s.vm.findClass RX0 = some m.cls := findClass_of_methodNamed B.named
  have hlocks := B.notSynchronized
  have hS : va_S (fun _ => False) s.heap s.heap [] := va_S.rf
  have hV0 : EnvG (fun _ => False) s := EnvG.nar hV sub_no
  have hRf : 2 ≤ (headSpec wsX0_firstFit ({ frames := 2, cells := 0, slots := 0, locals := 54 } : Room)).room.frames := Nat.le_refl _
  have hRl : 54 ≤ (headSpec wsX0_firstFit ({ frames := 2, cells := 0, slots := 0, locals := 54 } : Room)).room.locals := Nat.le_refl _
  have hRc : 0 ≤ (headSpec wsX0_firstFit ({ frames := 2, cells := 0, slots := 0, locals := 54 } : Room)).room.cells := Nat.le_refl _
  have hRs : 0 ≤ (headSpec wsX0_firstFit ({ frames := 2, cells := 0, slots := 0, locals := 54 } : Room)).room.slots := Nat.le_refl _
  generalize (headSpec wsX0_firstFit ({ frames := 2, cells := 0, slots := 0, locals := 54 } : Room)).room = R at hRf hRl hRc hRs ⊢
  have hl := lv_entry [.ref a, .int (nI kd), .int (bI tb), .int (nI fr)] (n := 5) (Nat.le_of_ble_eq_true rfl)
  refine W.eq (show entryFrame m args 5 = _ from by rw [hargs, lg_entry_eq]) ?_
  generalize (lg_sl [.ref a, .int (nI kd), .int (bI tb), .int (nI fr)] ++ List.replicate (5 - (lg_sl [.ref a, .int (nI kd), .int (bI tb), .int (nI fr)]).length) Slot.unset).toArray = ls at hl ⊢
  have hl : lv_has ls 5 [(0, .ref a), (1, .int (nI kd)), (2, .int (bI tb)), (3, .int (nI fr))] := hl
  generalize hQ : MQ _ _ _ _ _ _ _ = Q
  refine lv_iload_n hx hb dX0_firstFit_0 rfl (lv_at hl 3 rfl) ?_
  refine lv_istore (lv' := [(4, .int (nI fr)), (0, .ref a), (1, .int (nI kd)), (2, .int (bI tb)), (3, .int (nI fr))]) hx hb dX0_firstFit_1 hl (by decide) rfl (fun ls hl => ?_)
  have L3 : ∀ (fu : Nat) (i : Nat) (H : Heap) (locs : List Loc) (ls : Array Slot), 96 - i < fu → (i ≤ 96) → (fI (fitA f kd tb) fr (96 - fr) = fI (fitA f kd tb) i (96 - i)) → va_P D vwCl [(a, .inl (cI, n, .inl f))] H → va_S (fun _ => False) s.heap H locs → lv_has ls 5 [(0, .ref a), (1, .int (nI kd)), (2, .int (bI tb)), (3, .int (nI fr)), (4, .int (nI i))] → W p l e R s m args below meth c H locs 0 0 Q (F0 m 3 ls []) := by
    intro fu
    induction fu with
    | zero => intro _ _ _ _ h; exact absurd h (Nat.not_lt_zero _)
    | succ fu ih3 =>
      intro i H locs ls hm3 h1 h2 hP  hS hl
      refine lv_iload hx hb dX0_firstFit_3 (lv_at hl 4 rfl) ?_
      refine lv_bipush (v := nI 96) hx hb dX0_firstFit_5 (by decide) ?_
      refine nv_icmp_ge (tgt := 38) hx hb (by omega) (by omega) dX0_firstFit_7 (by decide) (fun c_1 => ?_) (fun c_1 => ?_)
      · refine lv_iconst (v := -1) hx hb dX0_firstFit_38 (by decide) ?_
        rw [← hQ]
        exact W.iret (v := (-1)) hx hb hr (fun t ht hW => ⟨⟨(-1), (), rfl, (h2.trans (fI_e (by omega))).symm, trivial⟩, hS.F ht⟩) hS.2.2 dX0_firstFit_39
      · refine lv_aload_n hx hb dX0_firstFit_10 rfl (lv_at hl 0 rfl) ?_
        refine lv_iload_n hx hb dX0_firstFit_11 rfl (lv_at hl 1 rfl) ?_
        refine lv_iload_n hx hb dX0_firstFit_12 rfl (lv_at hl 2 rfl) ?_
        refine lv_iload hx hb dX0_firstFit_13 (lv_at hl 4 rfl) ?_
        refine lv_bipush (v := nI 12) hx hb dX0_firstFit_15 (by decide) ?_
        refine nv_irem hx hb (by omega) (by omega) (by omega) dX0_firstFit_17 ?_
        refine lv_iload hx hb dX0_firstFit_18 (lv_at hl 4 rfl) ?_
        refine lv_bipush (v := nI 12) hx hb dX0_firstFit_20 (by decide) ?_
        refine nv_idiv hx hb (by omega) (by omega) (by omega) dX0_firstFit_22 ?_
        refine va_calli (va_runS (As := [.ref a, .int (nI kd), .int (bI tb), .int (nI (i % 12)), .int (nI (i / 12))]) (rest := []) ⟨hx, hb, hml, hown, hts⟩ (c_X0_fits l D cI a n f kd tb (i % 12) (i / 12) hkd (by omega) (by omega) hn9) (va_cwS 5 hts gX0_firstFit_X0_fits rfl rfl rfl (by decide +kernel) ⟨Nat.le_trans (Nat.le_of_ble_eq_true rfl) hRf, Nat.le_trans (Nat.le_of_ble_eq_true rfl) hRl⟩) (pr_S (P_pick hP (k := 0) rfl) hK [0] rfl (hV0.at hS sub_id sub_id) EnvG_c) rfl rfl hl.1 rfl (lv_room (Nat.le_of_ble_eq_true rfl)) dX0_firstFit_23 ⟨Nat.le_trans (Nat.zero_le _) hRc, Nat.le_trans (Nat.zero_le _) hRs⟩) hS (fun _ _ h => h.elim) (fun _ h => h.elim) (fun r_2 _ t H1 locs ht hvm hw_2 hB hz hk hS => ?_)
        have hP := P_kept hP hk
        obtain rfl := hw_2
        refine nb_if_eq (tgt := 32) hx hb dX0_firstFit_26 (by decide) (fun c_3 => ?_) (fun c_3 => ?_)
        · refine lv_iinc (k := 4) (v := nI (i + 1)) (lv' := [(4, .int (nI (i + 1))), (0, .ref a), (1, .int (nI kd)), (2, .int (bI tb)), (3, .int (nI fr))]) hx hb dX0_firstFit_32 hl rfl (nI_add i 1) (by decide) rfl (fun ls hl => ?_)
          refine lv_goto (tgt := 3) hx hb dX0_firstFit_35 (by decide) ?_
          exact ih3 (i + 1) _ _ _ (by omega) (by omega) (h2.trans (fI_n (by omega) c_3)) hP hS (lv_sub hl [1, 2, 3, 4, 0] rfl)
        · refine lv_iload hx hb dX0_firstFit_29 (lv_at hl 4 rfl) ?_
          rw [← hQ]
          exact W.iret (v := nI i) hx hb hr (fun t ht hW => ⟨⟨nI i, (), rfl, (h2.trans (fI_y (by omega) c_3)).symm, trivial⟩, hS.F ht⟩) hS.2.2 dX0_firstFit_31
  exact L3 _ fr _ _ _ (Nat.lt_succ_self _) (by omega) rfl hP hS (lv_sub hl [1, 2, 3, 4, 0] rfl)
set_option maxHeartbeats 4000000 in
set_option maxRecDepth 100000 in
/-- isFreeOfColour -/
theorem c_X0_isFreeOfColour (l : Launch) (D : va_G) (cI cZ cO : ClassId) (ad : Nat → Nat) (n np nq : Nat) (F : Nat → Nat → Int32) (p0 : Nat) (c0 kd : Int32) (hn : n ≤ 10) (hnp : np ≤ 150) (hsk : ∀ p, p < np → ∃ k, k < n ∧ F 4 p = nI k) (hp0 : p0 < np) : Met l yX0_isFreeOfColour wsX0_isFreeOfColour ({ frames := 0, cells := 0, slots := 0, locals := 0 } : Room) (va_Pc [.ref (ad 0), .int (nI p0), .int c0, .int kd] (Pr D (gT cI cZ cO) (wG cI cZ cO ad n np nq F) V0)) (va_Qi (S := Unit) (fun (r : Int32) (_ : Unit) => r = bI (isF F c0 kd p0)) (fun _ _ => True) (fun _ => False)) 0 0 (fun _ => False) := by
  refine Met.ofW (cc := cX0_isFreeOfColour) (maxL := 4) (ret := (some .boolean)) (by decide) rfl ?_
  intro p e s m args below meth c s₁ B hml hv
  obtain ⟨hargs, hP, hK, hV⟩ := hv
  have hx := B.exec
  have hb := B.bytes
  have hr := B.returns
  have hts := atoms_spec (ws := wsX0_isFreeOfColour) B.pre
  have hown : s.vm.findClass RX0 = some m.cls := findClass_of_methodNamed B.named
  have hlocks := B.notSynchronized
  have hS : va_S (fun _ => False) s.heap s.heap [] := va_S.rf
  have hiw : ∀ w ∈ wsX00, w ∈ wsX0_isFreeOfColour := (fun _ h => List.mem_cons_of_mem _ (List.mem_append_right _ h))
  have hRf : 0 ≤ (headSpec wsX0_isFreeOfColour ({ frames := 0, cells := 0, slots := 0, locals := 0 } : Room)).room.frames := Nat.le_refl _
  have hRl : 0 ≤ (headSpec wsX0_isFreeOfColour ({ frames := 0, cells := 0, slots := 0, locals := 0 } : Room)).room.locals := Nat.le_refl _
  have hRc : 0 ≤ (headSpec wsX0_isFreeOfColour ({ frames := 0, cells := 0, slots := 0, locals := 0 } : Room)).room.cells := Nat.le_refl _
  have hRs : 0 ≤ (headSpec wsX0_isFreeOfColour ({ frames := 0, cells := 0, slots := 0, locals := 0 } : Room)).room.slots := Nat.le_refl _
  generalize (headSpec wsX0_isFreeOfColour ({ frames := 0, cells := 0, slots := 0, locals := 0 } : Room)).room = R at hRf hRl hRc hRs ⊢
  have hl := lv_entry [.ref (ad 0), .int (nI p0), .int c0, .int kd] (n := 4) (Nat.le_of_ble_eq_true rfl)
  refine W.eq (show entryFrame m args 4 = _ from by rw [hargs, lg_entry_eq]) ?_
  generalize (lg_sl [.ref (ad 0), .int (nI p0), .int c0, .int kd] ++ List.replicate (4 - (lg_sl [.ref (ad 0), .int (nI p0), .int c0, .int kd]).length) Slot.unset).toArray = ls at hl ⊢
  have hl : lv_has ls 4 [(0, .ref (ad 0)), (1, .int (nI p0)), (2, .int c0), (3, .int kd)] := hl
  generalize hQ : MQ _ _ _ _ _ _ _ = Q
  refine lv_aload_n hx hb dX0_isFreeOfColour_0 rfl (lv_at hl 0 rfl) ?_
  refine va_get (D := D) (ci := 0) (v := .ref (ad 6)) (C := RX0) (T := TX0) (N := 16) hx hb hts hiw hown hK hP 0 g_at0 rfl 7 (by decide) (hts (.fieldLink RX0 27 "GloveCutters" "pieceWhere" "[I") (by decide +kernel)) (fun _ h9 => h9) rfl dX0_isFreeOfColour_1 ?_
  refine lv_iload_n hx hb dX0_isFreeOfColour_4 rfl (lv_at hl 1 rfl) ?_
  refine nv_iald hx hb hK hP 6 0 g_at6 rfl (by omega) (by omega) dX0_isFreeOfColour_5 ?_
  refine lv_iconst (v := -1) hx hb dX0_isFreeOfColour_6 (by decide) ?_
  refine lv_icmp_ne (tgt := 39) hx hb dX0_isFreeOfColour_7 (by decide) (fun c_1 => ?_) (fun c_1 => ?_)
  · refine lv_iconst (v := nI 0) hx hb dX0_isFreeOfColour_39 (by decide) ?_
    rw [← hQ]
    exact W.zret (v := nI 0) hx hb hr rfl (fun t ht hW => ⟨⟨nI 0, (), rfl, (by rw [isF_1 c_1]; rfl), trivial⟩, hS.F ht⟩) hS.2.2 dX0_isFreeOfColour_40
  · refine lv_aload_n hx hb dX0_isFreeOfColour_10 rfl (lv_at hl 0 rfl) ?_
    refine va_get (D := D) (ci := 0) (v := .ref (ad 5)) (C := RX0) (T := TX0) (N := 16) hx hb hts hiw hown hK hP 0 g_at0 rfl 6 (by decide) (hts (.fieldLink RX0 24 "GloveCutters" "pieceKind" "[I") (by decide +kernel)) (fun _ h9 => h9) rfl dX0_isFreeOfColour_11 ?_
    refine lv_iload_n hx hb dX0_isFreeOfColour_14 rfl (lv_at hl 1 rfl) ?_
    refine nv_iald hx hb hK hP 5 0 g_at5 rfl (by omega) (by omega) dX0_isFreeOfColour_15 ?_
    refine lv_iload_n hx hb dX0_isFreeOfColour_16 rfl (lv_at hl 3 rfl) ?_
    refine lv_icmp_ne (tgt := 39) hx hb dX0_isFreeOfColour_17 (by decide) (fun c_2 => ?_) (fun c_2 => ?_)
    · refine lv_iconst (v := nI 0) hx hb dX0_isFreeOfColour_39 (by decide) ?_
      rw [← hQ]
      exact W.zret (v := nI 0) hx hb hr rfl (fun t ht hW => ⟨⟨nI 0, (), rfl, (by rw [isF_2 c_2]; rfl), trivial⟩, hS.F ht⟩) hS.2.2 dX0_isFreeOfColour_40
    · refine lv_aload_n hx hb dX0_isFreeOfColour_20 rfl (lv_at hl 0 rfl) ?_
      refine va_get (D := D) (ci := 0) (v := .ref (ad 1)) (C := RX0) (T := TX0) (N := 16) hx hb hts hiw hown hK hP 0 g_at0 rfl 1 (by decide) (hts (.fieldLink RX0 9 "GloveCutters" "skinColour" "[I") (by decide +kernel)) (fun _ h9 => h9) rfl dX0_isFreeOfColour_21 ?_
      refine lv_aload_n hx hb dX0_isFreeOfColour_24 rfl (lv_at hl 0 rfl) ?_
      refine va_get (D := D) (ci := 0) (v := .ref (ad 4)) (C := RX0) (T := TX0) (N := 16) hx hb hts hiw hown hK hP 0 g_at0 rfl 5 (by decide) (hts (.fieldLink RX0 21 "GloveCutters" "pieceSkin" "[I") (by decide +kernel)) (fun _ h9 => h9) rfl dX0_isFreeOfColour_25 ?_
      refine lv_iload_n hx hb dX0_isFreeOfColour_28 rfl (lv_at hl 1 rfl) ?_
      refine nv_iald hx hb hK hP 4 0 g_at4 rfl (by omega) (by omega) dX0_isFreeOfColour_29 ?_
      obtain ⟨k9, hk9, ek9⟩ := hsk p0 hp0
      rw [ek9]
      refine nv_iald hx hb hK hP 1 0 g_at1 rfl (by omega) (by omega) dX0_isFreeOfColour_30 ?_
      refine lv_iload_n hx hb dX0_isFreeOfColour_31 rfl (lv_at hl 2 rfl) ?_
      refine lv_icmp_ne (tgt := 39) hx hb dX0_isFreeOfColour_32 (by decide) (fun c_3 => ?_) (fun c_3 => ?_)
      · refine lv_iconst (v := nI 0) hx hb dX0_isFreeOfColour_39 (by decide) ?_
        rw [← hQ]
        exact W.zret (v := nI 0) hx hb hr rfl (fun t ht hW => ⟨⟨nI 0, (), rfl, (by rw [isF_3 ek9 (by omega) c_3]; rfl), trivial⟩, hS.F ht⟩) hS.2.2 dX0_isFreeOfColour_40
      · refine lv_iconst (v := nI 1) hx hb dX0_isFreeOfColour_35 (by decide) ?_
        refine lv_goto (tgt := 40) hx hb dX0_isFreeOfColour_36 (by decide) ?_
        rw [← hQ]
        exact W.zret (v := nI 1) hx hb hr rfl (fun t ht hW => ⟨⟨nI 1, (), rfl, (by rw [isF_t c_1 c_2 ek9 (by omega) c_3]; rfl), trivial⟩, hS.F ht⟩) hS.2.2 dX0_isFreeOfColour_40
set_option maxHeartbeats 4000000 in
set_option maxRecDepth 100000 in
/-- freeOfColour -/
theorem c_X0_freeOfColour (l : Launch) (D : va_G) (cI cZ cO : ClassId) (ad : Nat → Nat) (n np nq : Nat) (F : Nat → Nat → Int32) (c0 kd : Int32) (hn : n ≤ 10) (hnp : np ≤ 150) (hsk : ∀ p, p < np → ∃ k, k < n ∧ F 4 p = nI k) : Met l yX0_freeOfColour wsX0_freeOfColour ({ frames := 1, cells := 0, slots := 0, locals := 23 } : Room) (va_Pc [.ref (ad 0), .int c0, .int kd] (Pr D (gT cI cZ cO) (wG cI cZ cO ad n np nq F) V0)) (va_Qi (S := Unit) (fun (r : Int32) (_ : Unit) => r = nI (fC F np c0 kd)) (fun _ _ => True) (fun _ => False)) 0 0 (fun _ => False) := by
  refine Met.ofW (cc := cX0_freeOfColour) (maxL := 5) (ret := (some .int)) (by decide) rfl ?_
  intro p e s m args below meth c s₁ B hml hv
  obtain ⟨hargs, hP, hK, hV⟩ := hv
  have hx := B.exec
  have hb := B.bytes
  have hr := B.returns
  have hts := atoms_spec (ws := wsX0_freeOfColour) B.pre
  have hown : s.vm.findClass RX0 = some m.cls := findClass_of_methodNamed B.named
  have hlocks := B.notSynchronized
  have hS : va_S (fun _ => False) s.heap s.heap [] := va_S.rf
  have hiw : ∀ w ∈ wsX00, w ∈ wsX0_freeOfColour := (fun _ h => List.mem_cons_of_mem _ (List.mem_append_right _ h))
  have hRf : 1 ≤ (headSpec wsX0_freeOfColour ({ frames := 1, cells := 0, slots := 0, locals := 23 } : Room)).room.frames := Nat.le_refl _
  have hRl : 23 ≤ (headSpec wsX0_freeOfColour ({ frames := 1, cells := 0, slots := 0, locals := 23 } : Room)).room.locals := Nat.le_refl _
  have hRc : 0 ≤ (headSpec wsX0_freeOfColour ({ frames := 1, cells := 0, slots := 0, locals := 23 } : Room)).room.cells := Nat.le_refl _
  have hRs : 0 ≤ (headSpec wsX0_freeOfColour ({ frames := 1, cells := 0, slots := 0, locals := 23 } : Room)).room.slots := Nat.le_refl _
  generalize (headSpec wsX0_freeOfColour ({ frames := 1, cells := 0, slots := 0, locals := 23 } : Room)).room = R at hRf hRl hRc hRs ⊢
  have hl := lv_entry [.ref (ad 0), .int c0, .int kd] (n := 5) (Nat.le_of_ble_eq_true rfl)
  refine W.eq (show entryFrame m args 5 = _ from by rw [hargs, lg_entry_eq]) ?_
  generalize (lg_sl [.ref (ad 0), .int c0, .int kd] ++ List.replicate (5 - (lg_sl [.ref (ad 0), .int c0, .int kd]).length) Slot.unset).toArray = ls at hl ⊢
  have hl : lv_has ls 5 [(0, .ref (ad 0)), (1, .int c0), (2, .int kd)] := hl
  generalize hQ : MQ _ _ _ _ _ _ _ = Q
  refine lv_iconst (v := nI 0) hx hb dX0_freeOfColour_0 (by decide) ?_
  refine lv_istore_n (lv' := [(3, .int (nI 0)), (0, .ref (ad 0)), (1, .int c0), (2, .int kd)]) hx hb dX0_freeOfColour_1 rfl hl (by decide) rfl (fun ls hl => ?_)
  refine lv_iconst (v := nI 0) hx hb dX0_freeOfColour_2 (by decide) ?_
  refine lv_istore (lv' := [(4, .int (nI 0)), (3, .int (nI 0)), (0, .ref (ad 0)), (1, .int c0), (2, .int kd)]) hx hb dX0_freeOfColour_3 hl (by decide) rfl (fun ls hl => ?_)
  have L5 : ∀ (fu : Nat) (k : Nat) (i : Nat) (H : Heap) (locs : List Loc) (ls : Array Slot), np - i < fu → (i ≤ np) → (k = cn (isF F c0 kd) i) → (k ≤ i) → va_P D vwCl (wG cI cZ cO ad n np nq F) H → va_S (fun _ => False) s.heap H locs → lv_has ls 5 [(0, .ref (ad 0)), (1, .int c0), (2, .int kd), (3, .int (nI k)), (4, .int (nI i))] → W p l e R s m args below meth c H locs 0 0 Q (F0 m 5 ls []) := by
    intro fu
    induction fu with
    | zero => intro _ _ _ _ _ h; exact absurd h (Nat.not_lt_zero _)
    | succ fu ih5 =>
      intro k i H locs ls hm5 h1 h2 h3 hP  hS hl
      refine lv_iload hx hb dX0_freeOfColour_5 (lv_at hl 4 rfl) ?_
      refine lv_aload_n hx hb dX0_freeOfColour_7 rfl (lv_at hl 0 rfl) ?_
      refine va_get (D := D) (ci := 0) (v := .int (nI np)) (C := RX0) (T := TX0) (N := 16) hx hb hts hiw hown hK hP 0 g_at0 rfl 4 (by decide) (hts (.fieldLink RX0 107 "GloveCutters" "pieces" "I") (by decide +kernel)) (fun _ h9 => h9) rfl dX0_freeOfColour_8 ?_
      refine nv_icmp_ge (tgt := 34) hx hb (by omega) (by omega) dX0_freeOfColour_11 (by decide) (fun c_1 => ?_) (fun c_1 => ?_)
      · refine lv_iload_n hx hb dX0_freeOfColour_34 rfl (lv_at hl 3 rfl) ?_
        rw [← hQ]
        exact W.iret (v := nI k) hx hb hr (fun t ht hW => ⟨⟨nI k, (), rfl, (by rw [h2, show i = np by omega]; rfl), trivial⟩, hS.F ht⟩) hS.2.2 dX0_freeOfColour_35
      · refine lv_aload_n hx hb dX0_freeOfColour_14 rfl (lv_at hl 0 rfl) ?_
        refine lv_iload hx hb dX0_freeOfColour_15 (lv_at hl 4 rfl) ?_
        refine lv_iload_n hx hb dX0_freeOfColour_17 rfl (lv_at hl 1 rfl) ?_
        refine lv_iload_n hx hb dX0_freeOfColour_18 rfl (lv_at hl 2 rfl) ?_
        refine va_calli (va_runV (As := [.int (nI i), .int c0, .int kd]) (rest := []) ⟨hx, hb, hml, hown, hts⟩ (c_X0_isFreeOfColour l D cI cZ cO ad n np nq F i c0 kd hn hnp hsk (by omega)) (cwV 3 hts gX0_freeOfColour_X0_isFreeOfColour rfl rfl rfl (by decide +kernel) ⟨Nat.le_trans (Nat.le_of_ble_eq_true rfl) hRf, Nat.le_trans (Nat.le_of_ble_eq_true rfl) hRl⟩) (pr_V hP (ci := 0) (q0 := 0) rfl g_at0 rfl hP hK [0, 1, 2] rfl V0_at V0_c) rfl rfl hl.1 rfl (lv_room (Nat.le_of_ble_eq_true rfl)) dX0_freeOfColour_19 ⟨Nat.le_trans (Nat.zero_le _) hRc, Nat.le_trans (Nat.zero_le _) hRs⟩) hS (fun _ _ h => h.elim) (fun _ h => h.elim) (fun r_2 _ t H1 locs ht hvm hw_2 hB hz hk hS => ?_)
        have hP := P_kept hP hk
        obtain rfl := hw_2
        refine nb_if_eq (tgt := 28) hx hb dX0_freeOfColour_22 (by decide) (fun c_3 => ?_) (fun c_3 => ?_)
        · refine lv_iinc (k := 4) (v := nI (i + 1)) (lv' := [(4, .int (nI (i + 1))), (0, .ref (ad 0)), (1, .int c0), (2, .int kd), (3, .int (nI k))]) hx hb dX0_freeOfColour_28 hl rfl (nI_add i 1) (by decide) rfl (fun ls hl => ?_)
          refine lv_goto (tgt := 5) hx hb dX0_freeOfColour_31 (by decide) ?_
          exact ih5 k (i + 1) _ _ _ (by omega) (by omega) (by rw [h2]; exact (cn_f c_3).symm) (by omega) hP hS (lv_sub hl [1, 2, 3, 4, 0] rfl)
        · refine lv_iinc (k := 3) (v := nI (k + 1)) (lv' := [(3, .int (nI (k + 1))), (0, .ref (ad 0)), (1, .int c0), (2, .int kd), (4, .int (nI i))]) hx hb dX0_freeOfColour_25 hl rfl (nI_add k 1) (by decide) rfl (fun ls hl => ?_)
          refine lv_iinc (k := 4) (v := nI (i + 1)) (lv' := [(4, .int (nI (i + 1))), (3, .int (nI (k + 1))), (0, .ref (ad 0)), (1, .int c0), (2, .int kd)]) hx hb dX0_freeOfColour_28 hl rfl (nI_add i 1) (by decide) rfl (fun ls hl => ?_)
          refine lv_goto (tgt := 5) hx hb dX0_freeOfColour_31 (by decide) ?_
          exact ih5 (k + 1) (i + 1) _ _ _ (by omega) (by omega) (by rw [h2]; exact (cn_t c_3).symm) (by omega) hP hS (lv_sub hl [2, 3, 4, 1, 0] rfl)
  exact L5 _ 0 0 _ _ _ (Nat.lt_succ_self _) (by omega) rfl (by omega) hP hS (lv_sub hl [2, 3, 4, 1, 0] rfl)
set_option maxHeartbeats 4000000 in
set_option maxRecDepth 100000 in
/-- freeTranks -/
theorem c_X0_freeTranks (l : Launch) (D : va_G) (cI cZ cO : ClassId) (ad : Nat → Nat) (n np nq : Nat) (F : Nat → Nat → Int32) (s0 : Nat) (hnp : np ≤ 150) : Met l yX0_freeTranks wsX0_freeTranks ({ frames := 0, cells := 0, slots := 0, locals := 0 } : Room) (va_Pc [.ref (ad 0), .int (nI s0)] (Pr D (gT cI cZ cO) (wG cI cZ cO ad n np nq F) V0)) (va_Qi (S := Unit) (fun (r : Int32) (_ : Unit) => r = nI (fT F np s0)) (fun _ _ => True) (fun _ => False)) 0 0 (fun _ => False) := by
  refine Met.ofW (cc := cX0_freeTranks) (maxL := 4) (ret := (some .int)) (by decide) rfl ?_
  intro p e s m args below meth c s₁ B hml hv
  obtain ⟨hargs, hP, hK, hV⟩ := hv
  have hx := B.exec
  have hb := B.bytes
  have hr := B.returns
  have hts := atoms_spec (ws := wsX0_freeTranks) B.pre
  have hown : s.vm.findClass RX0 = some m.cls := findClass_of_methodNamed B.named
  have hlocks := B.notSynchronized
  have hS : va_S (fun _ => False) s.heap s.heap [] := va_S.rf
  have hiw : ∀ w ∈ wsX00, w ∈ wsX0_freeTranks := (fun _ h => List.mem_cons_of_mem _ (List.mem_append_right _ h))
  have hRf : 0 ≤ (headSpec wsX0_freeTranks ({ frames := 0, cells := 0, slots := 0, locals := 0 } : Room)).room.frames := Nat.le_refl _
  have hRl : 0 ≤ (headSpec wsX0_freeTranks ({ frames := 0, cells := 0, slots := 0, locals := 0 } : Room)).room.locals := Nat.le_refl _
  have hRc : 0 ≤ (headSpec wsX0_freeTranks ({ frames := 0, cells := 0, slots := 0, locals := 0 } : Room)).room.cells := Nat.le_refl _
  have hRs : 0 ≤ (headSpec wsX0_freeTranks ({ frames := 0, cells := 0, slots := 0, locals := 0 } : Room)).room.slots := Nat.le_refl _
  generalize (headSpec wsX0_freeTranks ({ frames := 0, cells := 0, slots := 0, locals := 0 } : Room)).room = R at hRf hRl hRc hRs ⊢
  have hl := lv_entry [.ref (ad 0), .int (nI s0)] (n := 4) (Nat.le_of_ble_eq_true rfl)
  refine W.eq (show entryFrame m args 4 = _ from by rw [hargs, lg_entry_eq]) ?_
  generalize (lg_sl [.ref (ad 0), .int (nI s0)] ++ List.replicate (4 - (lg_sl [.ref (ad 0), .int (nI s0)]).length) Slot.unset).toArray = ls at hl ⊢
  have hl : lv_has ls 4 [(0, .ref (ad 0)), (1, .int (nI s0))] := hl
  generalize hQ : MQ _ _ _ _ _ _ _ = Q
  refine lv_iconst (v := nI 0) hx hb dX0_freeTranks_0 (by decide) ?_
  refine lv_istore_n (lv' := [(2, .int (nI 0)), (0, .ref (ad 0)), (1, .int (nI s0))]) hx hb dX0_freeTranks_1 rfl hl (by decide) rfl (fun ls hl => ?_)
  refine lv_iconst (v := nI 0) hx hb dX0_freeTranks_2 (by decide) ?_
  refine lv_istore_n (lv' := [(3, .int (nI 0)), (2, .int (nI 0)), (0, .ref (ad 0)), (1, .int (nI s0))]) hx hb dX0_freeTranks_3 rfl hl (by decide) rfl (fun ls hl => ?_)
  have L4 : ∀ (fu : Nat) (k : Nat) (i : Nat) (H : Heap) (locs : List Loc) (ls : Array Slot), np - i < fu → (i ≤ np) → (k = cn (isT F s0) i) → (k ≤ i) → va_P D vwCl (wG cI cZ cO ad n np nq F) H → va_S (fun _ => False) s.heap H locs → lv_has ls 4 [(0, .ref (ad 0)), (1, .int (nI s0)), (2, .int (nI k)), (3, .int (nI i))] → W p l e R s m args below meth c H locs 0 0 Q (F0 m 4 ls []) := by
    intro fu
    induction fu with
    | zero => intro _ _ _ _ _ h; exact absurd h (Nat.not_lt_zero _)
    | succ fu ih4 =>
      intro k i H locs ls hm4 h1 h2 h3 hP  hS hl
      refine lv_iload_n hx hb dX0_freeTranks_4 rfl (lv_at hl 3 rfl) ?_
      refine lv_aload_n hx hb dX0_freeTranks_5 rfl (lv_at hl 0 rfl) ?_
      refine va_get (D := D) (ci := 0) (v := .int (nI np)) (C := RX0) (T := TX0) (N := 16) hx hb hts hiw hown hK hP 0 g_at0 rfl 4 (by decide) (hts (.fieldLink RX0 107 "GloveCutters" "pieces" "I") (by decide +kernel)) (fun _ h9 => h9) rfl dX0_freeTranks_6 ?_
      refine nv_icmp_ge (tgt := 50) hx hb (by omega) (by omega) dX0_freeTranks_9 (by decide) (fun c_1 => ?_) (fun c_1 => ?_)
      · refine lv_iload_n hx hb dX0_freeTranks_50 rfl (lv_at hl 2 rfl) ?_
        rw [← hQ]
        exact W.iret (v := nI k) hx hb hr (fun t ht hW => ⟨⟨nI k, (), rfl, (by rw [h2, show i = np by omega]; rfl), trivial⟩, hS.F ht⟩) hS.2.2 dX0_freeTranks_51
      · refine lv_aload_n hx hb dX0_freeTranks_12 rfl (lv_at hl 0 rfl) ?_
        refine va_get (D := D) (ci := 0) (v := .ref (ad 6)) (C := RX0) (T := TX0) (N := 16) hx hb hts hiw hown hK hP 0 g_at0 rfl 7 (by decide) (hts (.fieldLink RX0 27 "GloveCutters" "pieceWhere" "[I") (by decide +kernel)) (fun _ h9 => h9) rfl dX0_freeTranks_13 ?_
        refine lv_iload_n hx hb dX0_freeTranks_16 rfl (lv_at hl 3 rfl) ?_
        refine nv_iald hx hb hK hP 6 0 g_at6 rfl (by omega) (by omega) dX0_freeTranks_17 ?_
        refine lv_iconst (v := -1) hx hb dX0_freeTranks_18 (by decide) ?_
        refine lv_icmp_ne (tgt := 44) hx hb dX0_freeTranks_19 (by decide) (fun c_2 => ?_) (fun c_2 => ?_)
        · refine lv_iinc (k := 3) (v := nI (i + 1)) (lv' := [(3, .int (nI (i + 1))), (0, .ref (ad 0)), (1, .int (nI s0)), (2, .int (nI k))]) hx hb dX0_freeTranks_44 hl rfl (nI_add i 1) (by decide) rfl (fun ls hl => ?_)
          refine lv_goto (tgt := 4) hx hb dX0_freeTranks_47 (by decide) ?_
          exact ih4 k (i + 1) _ _ _ (by omega) (by omega) (by rw [h2]; exact (cn_f (isT_1 c_2)).symm) (by omega) hP hS (lv_sub hl [1, 2, 3, 0] rfl)
        · refine lv_aload_n hx hb dX0_freeTranks_22 rfl (lv_at hl 0 rfl) ?_
          refine va_get (D := D) (ci := 0) (v := .ref (ad 5)) (C := RX0) (T := TX0) (N := 16) hx hb hts hiw hown hK hP 0 g_at0 rfl 6 (by decide) (hts (.fieldLink RX0 24 "GloveCutters" "pieceKind" "[I") (by decide +kernel)) (fun _ h9 => h9) rfl dX0_freeTranks_23 ?_
          refine lv_iload_n hx hb dX0_freeTranks_26 rfl (lv_at hl 3 rfl) ?_
          refine nv_iald hx hb hK hP 5 0 g_at5 rfl (by omega) (by omega) dX0_freeTranks_27 ?_
          refine lv_if_ne (tgt := 44) hx hb dX0_freeTranks_28 (by decide) (fun c_3 => ?_) (fun c_3 => ?_)
          · refine lv_iinc (k := 3) (v := nI (i + 1)) (lv' := [(3, .int (nI (i + 1))), (0, .ref (ad 0)), (1, .int (nI s0)), (2, .int (nI k))]) hx hb dX0_freeTranks_44 hl rfl (nI_add i 1) (by decide) rfl (fun ls hl => ?_)
            refine lv_goto (tgt := 4) hx hb dX0_freeTranks_47 (by decide) ?_
            exact ih4 k (i + 1) _ _ _ (by omega) (by omega) (by rw [h2]; exact (cn_f (isT_2 c_3)).symm) (by omega) hP hS (lv_sub hl [1, 2, 3, 0] rfl)
          · refine lv_aload_n hx hb dX0_freeTranks_31 rfl (lv_at hl 0 rfl) ?_
            refine va_get (D := D) (ci := 0) (v := .ref (ad 4)) (C := RX0) (T := TX0) (N := 16) hx hb hts hiw hown hK hP 0 g_at0 rfl 5 (by decide) (hts (.fieldLink RX0 21 "GloveCutters" "pieceSkin" "[I") (by decide +kernel)) (fun _ h9 => h9) rfl dX0_freeTranks_32 ?_
            refine lv_iload_n hx hb dX0_freeTranks_35 rfl (lv_at hl 3 rfl) ?_
            refine nv_iald hx hb hK hP 4 0 g_at4 rfl (by omega) (by omega) dX0_freeTranks_36 ?_
            refine lv_iload_n hx hb dX0_freeTranks_37 rfl (lv_at hl 1 rfl) ?_
            refine lv_icmp_ne (tgt := 44) hx hb dX0_freeTranks_38 (by decide) (fun c_4 => ?_) (fun c_4 => ?_)
            · refine lv_iinc (k := 3) (v := nI (i + 1)) (lv' := [(3, .int (nI (i + 1))), (0, .ref (ad 0)), (1, .int (nI s0)), (2, .int (nI k))]) hx hb dX0_freeTranks_44 hl rfl (nI_add i 1) (by decide) rfl (fun ls hl => ?_)
              refine lv_goto (tgt := 4) hx hb dX0_freeTranks_47 (by decide) ?_
              exact ih4 k (i + 1) _ _ _ (by omega) (by omega) (by rw [h2]; exact (cn_f (isT_3 c_4)).symm) (by omega) hP hS (lv_sub hl [1, 2, 3, 0] rfl)
            · refine lv_iinc (k := 2) (v := nI (k + 1)) (lv' := [(2, .int (nI (k + 1))), (0, .ref (ad 0)), (1, .int (nI s0)), (3, .int (nI i))]) hx hb dX0_freeTranks_41 hl rfl (nI_add k 1) (by decide) rfl (fun ls hl => ?_)
              refine lv_iinc (k := 3) (v := nI (i + 1)) (lv' := [(3, .int (nI (i + 1))), (2, .int (nI (k + 1))), (0, .ref (ad 0)), (1, .int (nI s0))]) hx hb dX0_freeTranks_44 hl rfl (nI_add i 1) (by decide) rfl (fun ls hl => ?_)
              refine lv_goto (tgt := 4) hx hb dX0_freeTranks_47 (by decide) ?_
              exact ih4 (k + 1) (i + 1) _ _ _ (by omega) (by omega) (by rw [h2]; exact (cn_t (isT_t c_2 c_3 c_4)).symm) (by omega) hP hS (lv_sub hl [2, 3, 1, 0] rfl)
  exact L4 _ 0 0 _ _ _ (Nat.lt_succ_self _) (by omega) rfl (by omega) hP hS (lv_sub hl [2, 3, 1, 0] rfl)
set_option maxHeartbeats 4000000 in
set_option maxRecDepth 100000 in
/-- mostTranksOfOneSkin -/
theorem c_X0_mostTranksOfOneSkin (l : Launch) (D : va_G) (cI cZ cO : ClassId) (ad : Nat → Nat) (n np nq : Nat) (F : Nat → Nat → Int32) (c0 : Int32) (hn : n ≤ 10) (hnp : np ≤ 150) : Met l yX0_mostTranksOfOneSkin wsX0_mostTranksOfOneSkin ({ frames := 1, cells := 0, slots := 0, locals := 23 } : Room) (va_Pc [.ref (ad 0), .int c0] (Pr D (gT cI cZ cO) (wG cI cZ cO ad n np nq F) V0)) (va_Qi (S := Unit) (fun (r : Int32) (_ : Unit) => r = nI (mxT F np c0 n)) (fun _ _ => True) (fun _ => False)) 0 0 (fun _ => False) := by
  refine Met.ofW (cc := cX0_mostTranksOfOneSkin) (maxL := 4) (ret := (some .int)) (by decide) rfl ?_
  intro p e s m args below meth c s₁ B hml hv
  obtain ⟨hargs, hP, hK, hV⟩ := hv
  have hx := B.exec
  have hb := B.bytes
  have hr := B.returns
  have hts := atoms_spec (ws := wsX0_mostTranksOfOneSkin) B.pre
  have hown : s.vm.findClass RX0 = some m.cls := findClass_of_methodNamed B.named
  have hlocks := B.notSynchronized
  have hS : va_S (fun _ => False) s.heap s.heap [] := va_S.rf
  have hiw : ∀ w ∈ wsX00, w ∈ wsX0_mostTranksOfOneSkin := (fun _ h => List.mem_cons_of_mem _ (List.mem_append_right _ h))
  have hRf : 1 ≤ (headSpec wsX0_mostTranksOfOneSkin ({ frames := 1, cells := 0, slots := 0, locals := 23 } : Room)).room.frames := Nat.le_refl _
  have hRl : 23 ≤ (headSpec wsX0_mostTranksOfOneSkin ({ frames := 1, cells := 0, slots := 0, locals := 23 } : Room)).room.locals := Nat.le_refl _
  have hRc : 0 ≤ (headSpec wsX0_mostTranksOfOneSkin ({ frames := 1, cells := 0, slots := 0, locals := 23 } : Room)).room.cells := Nat.le_refl _
  have hRs : 0 ≤ (headSpec wsX0_mostTranksOfOneSkin ({ frames := 1, cells := 0, slots := 0, locals := 23 } : Room)).room.slots := Nat.le_refl _
  generalize (headSpec wsX0_mostTranksOfOneSkin ({ frames := 1, cells := 0, slots := 0, locals := 23 } : Room)).room = R at hRf hRl hRc hRs ⊢
  have hl := lv_entry [.ref (ad 0), .int c0] (n := 4) (Nat.le_of_ble_eq_true rfl)
  refine W.eq (show entryFrame m args 4 = _ from by rw [hargs, lg_entry_eq]) ?_
  generalize (lg_sl [.ref (ad 0), .int c0] ++ List.replicate (4 - (lg_sl [.ref (ad 0), .int c0]).length) Slot.unset).toArray = ls at hl ⊢
  have hl : lv_has ls 4 [(0, .ref (ad 0)), (1, .int c0)] := hl
  generalize hQ : MQ _ _ _ _ _ _ _ = Q
  refine lv_iconst (v := nI 0) hx hb dX0_mostTranksOfOneSkin_0 (by decide) ?_
  refine lv_istore_n (lv' := [(2, .int (nI 0)), (0, .ref (ad 0)), (1, .int c0)]) hx hb dX0_mostTranksOfOneSkin_1 rfl hl (by decide) rfl (fun ls hl => ?_)
  refine lv_iconst (v := nI 0) hx hb dX0_mostTranksOfOneSkin_2 (by decide) ?_
  refine lv_istore_n (lv' := [(3, .int (nI 0)), (2, .int (nI 0)), (0, .ref (ad 0)), (1, .int c0)]) hx hb dX0_mostTranksOfOneSkin_3 rfl hl (by decide) rfl (fun ls hl => ?_)
  have L4 : ∀ (fu : Nat) (k : Nat) (i : Nat) (H : Heap) (locs : List Loc) (ls : Array Slot), n - i < fu → (i ≤ n) → (k = mxT F np c0 i) → (k ≤ 150) → va_P D vwCl (wG cI cZ cO ad n np nq F) H → va_S (fun _ => False) s.heap H locs → lv_has ls 4 [(0, .ref (ad 0)), (1, .int c0), (2, .int (nI k)), (3, .int (nI i))] → W p l e R s m args below meth c H locs 0 0 Q (F0 m 4 ls []) := by
    intro fu
    induction fu with
    | zero => intro _ _ _ _ _ h; exact absurd h (Nat.not_lt_zero _)
    | succ fu ih4 =>
      intro k i H locs ls hm4 h1 h2 h3 hP  hS hl
      refine lv_iload_n hx hb dX0_mostTranksOfOneSkin_4 rfl (lv_at hl 3 rfl) ?_
      refine lv_aload_n hx hb dX0_mostTranksOfOneSkin_5 rfl (lv_at hl 0 rfl) ?_
      refine va_get (D := D) (ci := 0) (v := .int (nI n)) (C := RX0) (T := TX0) (N := 16) hx hb hts hiw hown hK hP 0 g_at0 rfl 0 (by decide) (hts (.fieldLink RX0 56 "GloveCutters" "skins" "I") (by decide +kernel)) (fun _ h9 => h9) rfl dX0_mostTranksOfOneSkin_6 ?_
      refine nv_icmp_ge (tgt := 38) hx hb (by omega) (by omega) dX0_mostTranksOfOneSkin_9 (by decide) (fun c_1 => ?_) (fun c_1 => ?_)
      · refine lv_iload_n hx hb dX0_mostTranksOfOneSkin_38 rfl (lv_at hl 2 rfl) ?_
        rw [← hQ]
        exact W.iret (v := nI k) hx hb hr (fun t ht hW => ⟨⟨nI k, (), rfl, (by rw [h2, show i = n by omega]), trivial⟩, hS.F ht⟩) hS.2.2 dX0_mostTranksOfOneSkin_39
      · refine lv_aload_n hx hb dX0_mostTranksOfOneSkin_12 rfl (lv_at hl 0 rfl) ?_
        refine va_get (D := D) (ci := 0) (v := .ref (ad 1)) (C := RX0) (T := TX0) (N := 16) hx hb hts hiw hown hK hP 0 g_at0 rfl 1 (by decide) (hts (.fieldLink RX0 9 "GloveCutters" "skinColour" "[I") (by decide +kernel)) (fun _ h9 => h9) rfl dX0_mostTranksOfOneSkin_13 ?_
        refine lv_iload_n hx hb dX0_mostTranksOfOneSkin_16 rfl (lv_at hl 3 rfl) ?_
        refine nv_iald hx hb hK hP 1 0 g_at1 rfl (by omega) (by omega) dX0_mostTranksOfOneSkin_17 ?_
        refine lv_iload_n hx hb dX0_mostTranksOfOneSkin_18 rfl (lv_at hl 1 rfl) ?_
        refine lv_icmp_ne (tgt := 32) hx hb dX0_mostTranksOfOneSkin_19 (by decide) (fun c_2 => ?_) (fun c_2 => ?_)
        · refine lv_iinc (k := 3) (v := nI (i + 1)) (lv' := [(3, .int (nI (i + 1))), (0, .ref (ad 0)), (1, .int c0), (2, .int (nI k))]) hx hb dX0_mostTranksOfOneSkin_32 hl rfl (nI_add i 1) (by decide) rfl (fun ls hl => ?_)
          refine lv_goto (tgt := 4) hx hb dX0_mostTranksOfOneSkin_35 (by decide) ?_
          exact ih4 k (i + 1) _ _ _ (by omega) (by omega) (by rw [mxT_f c_2]; exact h2) h3 hP hS (lv_sub hl [1, 2, 3, 0] rfl)
        · refine lv_iload_n hx hb dX0_mostTranksOfOneSkin_22 rfl (lv_at hl 2 rfl) ?_
          refine lv_aload_n hx hb dX0_mostTranksOfOneSkin_23 rfl (lv_at hl 0 rfl) ?_
          refine lv_iload_n hx hb dX0_mostTranksOfOneSkin_24 rfl (lv_at hl 3 rfl) ?_
          refine va_calli (va_runV (As := [.int (nI i)]) (rest := [.int (nI k)]) ⟨hx, hb, hml, hown, hts⟩ (c_X0_freeTranks l D cI cZ cO ad n np nq F i hnp) (cwV 1 hts gX0_mostTranksOfOneSkin_X0_freeTranks rfl rfl rfl (by decide +kernel) ⟨Nat.le_trans (Nat.le_of_ble_eq_true rfl) hRf, Nat.le_trans (Nat.le_of_ble_eq_true rfl) hRl⟩) (pr_V hP (ci := 0) (q0 := 0) rfl g_at0 rfl hP hK [0, 1, 2] rfl V0_at V0_c) rfl rfl hl.1 rfl (lv_room (Nat.le_of_ble_eq_true rfl)) dX0_mostTranksOfOneSkin_25 ⟨Nat.le_trans (Nat.zero_le _) hRc, Nat.le_trans (Nat.zero_le _) hRs⟩) hS (fun _ _ h => h.elim) (fun _ h => h.elim) (fun r_3 _ t H1 locs ht hvm hw_3 hB hz hk hS => ?_)
          have hP := P_kept hP hk
          obtain rfl := hw_3
          have hb9 := fT_le F np i
          refine va_mmax hx hb (hml.trans hl.1.symm) hown (hts (.methodLink RX0 226 Lib.Math.max.name) (by decide +kernel)) (hts (.static Lib.Math.max.name) (by decide +kernel)) (hts (.initialized "java/lang/Math") (by decide +kernel)) (hts (.code Lib.Math.max.name Lib.Math.max.code 2 (some .int)) (by decide +kernel)) (Nat.le_trans (Nat.le_of_ble_eq_true rfl) hRf) (Nat.le_trans (Nat.le_of_ble_eq_true rfl) hRl) (Nat.zero_le _) (Nat.zero_le _) dX0_mostTranksOfOneSkin_28 ?_
          rw [nI_max (by omega) (by omega)]
          refine lv_istore_n (lv' := [(2, .int (nI (max k (fT F np i)))), (0, .ref (ad 0)), (1, .int c0), (3, .int (nI i))]) hx hb dX0_mostTranksOfOneSkin_31 rfl hl (by decide) rfl (fun ls hl => ?_)
          refine lv_iinc (k := 3) (v := nI (i + 1)) (lv' := [(3, .int (nI (i + 1))), (2, .int (nI (max k (fT F np i)))), (0, .ref (ad 0)), (1, .int c0)]) hx hb dX0_mostTranksOfOneSkin_32 hl rfl (nI_add i 1) (by decide) rfl (fun ls hl => ?_)
          refine lv_goto (tgt := 4) hx hb dX0_mostTranksOfOneSkin_35 (by decide) ?_
          exact ih4 (max k (fT F np i)) (i + 1) _ _ _ (by omega) (by omega) (by rw [mxT_t c_2, ← h2]) (Nat.max_le.mpr ⟨h3, by omega⟩) hP hS (lv_sub hl [2, 3, 1, 0] rfl)
  exact L4 _ 0 0 _ _ _ (Nat.lt_succ_self _) (by omega) rfl (by omega) hP hS (lv_sub hl [2, 3, 1, 0] rfl)
set_option maxHeartbeats 4000000 in
set_option maxRecDepth 100000 in
/-- pairsFrom -/
theorem c_X0_pairsFrom (l : Launch) (D : va_G) (fr kd : Nat) (hkd : kd < 4) (hf9 : fr ≤ 150) : Met l yX0_pairsFrom wsX0_pairsFrom ({ frames := 0, cells := 0, slots := 0, locals := 0 } : Room) (va_Pc [.int (nI fr), .int (nI kd)] (Pr D [] [] (EnvG (fun _ => False)))) (va_Qi (S := Unit) (fun (r : Int32) (_ : Unit) => r = nI (fr / kP kd)) (fun _ _ => True) (fun _ => False)) 0 0 (fun _ => False) := by
  refine Met.ofW (cc := cX0_pairsFrom) (maxL := 3) (ret := (some .int)) (by decide) rfl ?_
  intro p e s m args below meth c s₁ B hml hv
  obtain ⟨hargs, hP, hK, hV⟩ := hv
  have hx := B.exec
  have hb := B.bytes
  have hr := B.returns
  have hts := atoms_spec (ws := wsX0_pairsFrom) B.pre
  have hown : s.vm.findClass RX0 = some m.cls := findClass_of_methodNamed B.named
  have hlocks := B.notSynchronized
  have hS : va_S (fun _ => False) s.heap s.heap [] := va_S.rf
  have hV0 : EnvG (fun _ => False) s := EnvG.nar hV sub_no
  have hRf : 0 ≤ (headSpec wsX0_pairsFrom ({ frames := 0, cells := 0, slots := 0, locals := 0 } : Room)).room.frames := Nat.le_refl _
  have hRl : 0 ≤ (headSpec wsX0_pairsFrom ({ frames := 0, cells := 0, slots := 0, locals := 0 } : Room)).room.locals := Nat.le_refl _
  have hRc : 0 ≤ (headSpec wsX0_pairsFrom ({ frames := 0, cells := 0, slots := 0, locals := 0 } : Room)).room.cells := Nat.le_refl _
  have hRs : 0 ≤ (headSpec wsX0_pairsFrom ({ frames := 0, cells := 0, slots := 0, locals := 0 } : Room)).room.slots := Nat.le_refl _
  generalize (headSpec wsX0_pairsFrom ({ frames := 0, cells := 0, slots := 0, locals := 0 } : Room)).room = R at hRf hRl hRc hRs ⊢
  have hl := lv_entry [.int (nI fr), .int (nI kd)] (n := 3) (Nat.le_of_ble_eq_true rfl)
  refine W.eq (show entryFrame m args 3 = _ from by rw [hargs, lg_entry_eq]) ?_
  generalize (lg_sl [.int (nI fr), .int (nI kd)] ++ List.replicate (3 - (lg_sl [.int (nI fr), .int (nI kd)]).length) Slot.unset).toArray = ls at hl ⊢
  have hl : lv_has ls 3 [(0, .int (nI fr)), (1, .int (nI kd))] := hl
  generalize hQ : MQ _ _ _ _ _ _ _ = Q
  have hp9 := kP_le kd
  obtain ⟨tb_KIND_IN_PAIR, hKIND_IN_PAIRZ, hKIND_IN_PAIRT⟩ := hV0.2.2.2.1
  refine va_gets hx hb hKIND_IN_PAIRZ hS hown (hts (.fieldLink RX0 229 "GloveCutters" "KIND_IN_PAIR" "[I") (by decide +kernel)) (fun _ h9 => h9) dX0_pairsFrom_0 ?_
  refine lv_iload_n hx hb dX0_pairsFrom_3 rfl (lv_at hl 1 rfl) ?_
  refine nv_tab hx hb hKIND_IN_PAIRT hS (by omega) dX0_pairsFrom_4 ?_
  refine lv_istore_n (lv' := [(2, .int (nI (kP kd))), (0, .int (nI fr)), (1, .int (nI kd))]) hx hb dX0_pairsFrom_5 rfl hl (by decide) rfl (fun ls hl => ?_)
  refine lv_iload_n hx hb dX0_pairsFrom_6 rfl (lv_at hl 0 rfl) ?_
  refine nv_if_le (tgt := 16) hx hb (by omega) dX0_pairsFrom_7 (by decide) (fun c_1 => ?_) (fun c_1 => ?_)
  · exact absurd c_1 (by omega)
  · refine lv_iload_n hx hb dX0_pairsFrom_10 rfl (lv_at hl 1 rfl) ?_
    refine lv_iload_n hx hb dX0_pairsFrom_11 rfl (lv_at hl 0 rfl) ?_
    refine nv_idiv hx hb (by omega) (by omega) (by omega) dX0_pairsFrom_12 ?_
    refine lv_goto (tgt := 17) hx hb dX0_pairsFrom_13 (by decide) ?_
    rw [← hQ]
    exact W.iret (v := nI (fr / (kP kd))) hx hb hr (fun t ht hW => ⟨⟨nI (fr / (kP kd)), (), rfl, rfl, trivial⟩, hS.F ht⟩) hS.2.2 dX0_pairsFrom_17
set_option maxHeartbeats 4000000 in
set_option maxRecDepth 100000 in
/-- trankPairs -/
theorem c_X0_trankPairs (l : Launch) (D : va_G) (cI cZ cO : ClassId) (ad : Nat → Nat) (n np nq : Nat) (F : Nat → Nat → Int32) (c0 : Int32) (hn : n ≤ 10) (hnp : np ≤ 150) : Met l yX0_trankPairs wsX0_trankPairs ({ frames := 1, cells := 0, slots := 0, locals := 23 } : Room) (va_Pc [.ref (ad 0), .int c0] (Pr D (gT cI cZ cO) (wG cI cZ cO ad n np nq F) (EnvG (fun _ => False)))) (va_Qi (S := Unit) (fun (r : Int32) (_ : Unit) => r = nI (tP F np c0 n)) (fun _ _ => True) (fun _ => False)) 0 0 (fun _ => False) := by
  refine Met.ofW (cc := cX0_trankPairs) (maxL := 4) (ret := (some .int)) (by decide) rfl ?_
  intro p e s m args below meth c s₁ B hml hv
  obtain ⟨hargs, hP, hK, hV⟩ := hv
  have hx := B.exec
  have hb := B.bytes
  have hr := B.returns
  have hts := atoms_spec (ws := wsX0_trankPairs) B.pre
  have hown : s.vm.findClass RX0 = some m.cls := findClass_of_methodNamed B.named
  have hlocks := B.notSynchronized
  have hS : va_S (fun _ => False) s.heap s.heap [] := va_S.rf
  have hV0 : EnvG (fun _ => False) s := EnvG.nar hV sub_no
  have hiw : ∀ w ∈ wsX00, w ∈ wsX0_trankPairs := (fun _ h => List.mem_cons_of_mem _ (List.mem_append_right _ h))
  have hRf : 1 ≤ (headSpec wsX0_trankPairs ({ frames := 1, cells := 0, slots := 0, locals := 23 } : Room)).room.frames := Nat.le_refl _
  have hRl : 23 ≤ (headSpec wsX0_trankPairs ({ frames := 1, cells := 0, slots := 0, locals := 23 } : Room)).room.locals := Nat.le_refl _
  have hRc : 0 ≤ (headSpec wsX0_trankPairs ({ frames := 1, cells := 0, slots := 0, locals := 23 } : Room)).room.cells := Nat.le_refl _
  have hRs : 0 ≤ (headSpec wsX0_trankPairs ({ frames := 1, cells := 0, slots := 0, locals := 23 } : Room)).room.slots := Nat.le_refl _
  generalize (headSpec wsX0_trankPairs ({ frames := 1, cells := 0, slots := 0, locals := 23 } : Room)).room = R at hRf hRl hRc hRs ⊢
  have hl := lv_entry [.ref (ad 0), .int c0] (n := 4) (Nat.le_of_ble_eq_true rfl)
  refine W.eq (show entryFrame m args 4 = _ from by rw [hargs, lg_entry_eq]) ?_
  generalize (lg_sl [.ref (ad 0), .int c0] ++ List.replicate (4 - (lg_sl [.ref (ad 0), .int c0]).length) Slot.unset).toArray = ls at hl ⊢
  have hl : lv_has ls 4 [(0, .ref (ad 0)), (1, .int c0)] := hl
  generalize hQ : MQ _ _ _ _ _ _ _ = Q
  refine lv_iconst (v := nI 0) hx hb dX0_trankPairs_0 (by decide) ?_
  refine lv_istore_n (lv' := [(2, .int (nI 0)), (0, .ref (ad 0)), (1, .int c0)]) hx hb dX0_trankPairs_1 rfl hl (by decide) rfl (fun ls hl => ?_)
  refine lv_iconst (v := nI 0) hx hb dX0_trankPairs_2 (by decide) ?_
  refine lv_istore_n (lv' := [(3, .int (nI 0)), (2, .int (nI 0)), (0, .ref (ad 0)), (1, .int c0)]) hx hb dX0_trankPairs_3 rfl hl (by decide) rfl (fun ls hl => ?_)
  have L4 : ∀ (fu : Nat) (k : Nat) (i : Nat) (H : Heap) (locs : List Loc) (ls : Array Slot), n - i < fu → (i ≤ n) → (k = tP F np c0 i) → va_P D vwCl (wG cI cZ cO ad n np nq F) H → va_S (fun _ => False) s.heap H locs → lv_has ls 4 [(0, .ref (ad 0)), (1, .int c0), (2, .int (nI k)), (3, .int (nI i))] → W p l e R s m args below meth c H locs 0 0 Q (F0 m 4 ls []) := by
    intro fu
    induction fu with
    | zero => intro _ _ _ _ _ h; exact absurd h (Nat.not_lt_zero _)
    | succ fu ih4 =>
      intro k i H locs ls hm4 h1 h2 hP  hS hl
      refine lv_iload_n hx hb dX0_trankPairs_4 rfl (lv_at hl 3 rfl) ?_
      refine lv_aload_n hx hb dX0_trankPairs_5 rfl (lv_at hl 0 rfl) ?_
      refine va_get (D := D) (ci := 0) (v := .int (nI n)) (C := RX0) (T := TX0) (N := 16) hx hb hts hiw hown hK hP 0 g_at0 rfl 0 (by decide) (hts (.fieldLink RX0 56 "GloveCutters" "skins" "I") (by decide +kernel)) (fun _ h9 => h9) rfl dX0_trankPairs_6 ?_
      refine nv_icmp_ge (tgt := 40) hx hb (by omega) (by omega) dX0_trankPairs_9 (by decide) (fun c_1 => ?_) (fun c_1 => ?_)
      · refine lv_iload_n hx hb dX0_trankPairs_40 rfl (lv_at hl 2 rfl) ?_
        rw [← hQ]
        exact W.iret (v := nI k) hx hb hr (fun t ht hW => ⟨⟨nI k, (), rfl, (by rw [h2, show i = n by omega]), trivial⟩, hS.F ht⟩) hS.2.2 dX0_trankPairs_41
      · refine lv_aload_n hx hb dX0_trankPairs_12 rfl (lv_at hl 0 rfl) ?_
        refine va_get (D := D) (ci := 0) (v := .ref (ad 1)) (C := RX0) (T := TX0) (N := 16) hx hb hts hiw hown hK hP 0 g_at0 rfl 1 (by decide) (hts (.fieldLink RX0 9 "GloveCutters" "skinColour" "[I") (by decide +kernel)) (fun _ h9 => h9) rfl dX0_trankPairs_13 ?_
        refine lv_iload_n hx hb dX0_trankPairs_16 rfl (lv_at hl 3 rfl) ?_
        refine nv_iald hx hb hK hP 1 0 g_at1 rfl (by omega) (by omega) dX0_trankPairs_17 ?_
        refine lv_iload_n hx hb dX0_trankPairs_18 rfl (lv_at hl 1 rfl) ?_
        refine lv_icmp_ne (tgt := 34) hx hb dX0_trankPairs_19 (by decide) (fun c_2 => ?_) (fun c_2 => ?_)
        · refine lv_iinc (k := 3) (v := nI (i + 1)) (lv' := [(3, .int (nI (i + 1))), (0, .ref (ad 0)), (1, .int c0), (2, .int (nI k))]) hx hb dX0_trankPairs_34 hl rfl (nI_add i 1) (by decide) rfl (fun ls hl => ?_)
          refine lv_goto (tgt := 4) hx hb dX0_trankPairs_37 (by decide) ?_
          exact ih4 k (i + 1) _ _ _ (by omega) (by omega) (by rw [tP_f c_2]; exact h2) hP hS (lv_sub hl [1, 2, 3, 0] rfl)
        · refine lv_iload_n hx hb dX0_trankPairs_22 rfl (lv_at hl 2 rfl) ?_
          refine lv_aload_n hx hb dX0_trankPairs_23 rfl (lv_at hl 0 rfl) ?_
          refine lv_iload_n hx hb dX0_trankPairs_24 rfl (lv_at hl 3 rfl) ?_
          refine va_calli (va_runV (As := [.int (nI i)]) (rest := [.int (nI k)]) ⟨hx, hb, hml, hown, hts⟩ (c_X0_freeTranks l D cI cZ cO ad n np nq F i hnp) (cwV 1 hts gX0_trankPairs_X0_freeTranks rfl rfl rfl (by decide +kernel) ⟨Nat.le_trans (Nat.le_of_ble_eq_true rfl) hRf, Nat.le_trans (Nat.le_of_ble_eq_true rfl) hRl⟩) (pr_V hP (ci := 0) (q0 := 0) rfl g_at0 rfl hP hK [0, 1, 2] rfl V0_at V0_c) rfl rfl hl.1 rfl (lv_room (Nat.le_of_ble_eq_true rfl)) dX0_trankPairs_25 ⟨Nat.le_trans (Nat.zero_le _) hRc, Nat.le_trans (Nat.zero_le _) hRs⟩) hS (fun _ _ h => h.elim) (fun _ h => h.elim) (fun r_3 _ t H1 locs ht hvm hw_3 hB hz hk hS => ?_)
          have hP := P_kept hP hk
          obtain rfl := hw_3
          have hb9 := fT_le F np i
          refine lv_iconst (v := nI 0) hx hb dX0_trankPairs_28 (by decide) ?_
          refine va_calli (va_runS (As := [.int (nI (fT F np i)), .int (nI 0)]) (rest := [.int (nI k)]) ⟨hx, hb, hml, hown, hts⟩ (c_X0_pairsFrom l D (fT F np i) 0 (by omega) (by omega)) (va_cwS 2 hts gX0_trankPairs_X0_pairsFrom rfl rfl rfl (by decide +kernel) ⟨Nat.le_trans (Nat.le_of_ble_eq_true rfl) hRf, Nat.le_trans (Nat.le_of_ble_eq_true rfl) hRl⟩) (pr_S (P_nil) hK [] rfl (hV0.at hS sub_id sub_id) EnvG_c) rfl rfl hl.1 rfl (lv_room (Nat.le_of_ble_eq_true rfl)) dX0_trankPairs_29 ⟨Nat.le_trans (Nat.zero_le _) hRc, Nat.le_trans (Nat.zero_le _) hRs⟩) hS (fun _ _ h => h.elim) (fun _ h => h.elim) (fun r_4 _ t H1 locs ht hvm hw_4 hB hz hk hS => ?_)
          have hP := P_kept hP hk
          obtain rfl := hw_4
          refine nv_iadd hx hb dX0_trankPairs_32 ?_
          refine lv_istore_n (lv' := [(2, .int (nI (k + ((fT F np i) / kP 0)))), (0, .ref (ad 0)), (1, .int c0), (3, .int (nI i))]) hx hb dX0_trankPairs_33 rfl hl (by decide) rfl (fun ls hl => ?_)
          refine lv_iinc (k := 3) (v := nI (i + 1)) (lv' := [(3, .int (nI (i + 1))), (2, .int (nI (k + ((fT F np i) / kP 0)))), (0, .ref (ad 0)), (1, .int c0)]) hx hb dX0_trankPairs_34 hl rfl (nI_add i 1) (by decide) rfl (fun ls hl => ?_)
          refine lv_goto (tgt := 4) hx hb dX0_trankPairs_37 (by decide) ?_
          exact ih4 (k + ((fT F np i) / kP 0)) (i + 1) _ _ _ (by omega) (by omega) (by rw [tP_t c_2, ← h2]; rfl) hP hS (lv_sub hl [2, 3, 1, 0] rfl)
  exact L4 _ 0 0 _ _ _ (Nat.lt_succ_self _) (by omega) rfl hP hS (lv_sub hl [2, 3, 1, 0] rfl)
set_option maxHeartbeats 4000000 in
set_option maxRecDepth 100000 in
/-- lacking -/
theorem c_X0_lacking (l : Launch) (D : va_G) (cI cZ cO : ClassId) (ad : Nat → Nat) (n np nq : Nat) (F : Nat → Nat → Int32) (c0 : Int32) (kd : Nat) (hn : n ≤ 10) (hnp : np ≤ 150) (hsk : ∀ p, p < np → ∃ k, k < n ∧ F 4 p = nI k) (hkd : kd < 4) : Met l yX0_lacking wsX0_lacking ({ frames := 2, cells := 0, slots := 0, locals := 47 } : Room) (va_Pc [.ref (ad 0), .int c0, .int (nI kd)] (Pr D (gT cI cZ cO) (wG cI cZ cO ad n np nq F) (EnvG (fun _ => False)))) (va_Qi (S := Unit) (fun (r : Int32) (_ : Unit) => r = nI (lkN F n np c0 kd)) (fun _ _ => True) (fun _ => False)) 0 0 (fun _ => False) := by
  refine Met.ofW (cc := cX0_lacking) (maxL := 4) (ret := (some .int)) (by decide) rfl ?_
  intro p e s m args below meth c s₁ B hml hv
  obtain ⟨hargs, hP, hK, hV⟩ := hv
  have hx := B.exec
  have hb := B.bytes
  have hr := B.returns
  have hts := atoms_spec (ws := wsX0_lacking) B.pre
  have hown : s.vm.findClass RX0 = some m.cls := findClass_of_methodNamed B.named
  have hlocks := B.notSynchronized
  have hS : va_S (fun _ => False) s.heap s.heap [] := va_S.rf
  have hV0 : EnvG (fun _ => False) s := EnvG.nar hV sub_no
  have hiw : ∀ w ∈ wsX00, w ∈ wsX0_lacking := (fun _ h => List.mem_cons_of_mem _ (List.mem_append_right _ h))
  have hRf : 2 ≤ (headSpec wsX0_lacking ({ frames := 2, cells := 0, slots := 0, locals := 47 } : Room)).room.frames := Nat.le_refl _
  have hRl : 47 ≤ (headSpec wsX0_lacking ({ frames := 2, cells := 0, slots := 0, locals := 47 } : Room)).room.locals := Nat.le_refl _
  have hRc : 0 ≤ (headSpec wsX0_lacking ({ frames := 2, cells := 0, slots := 0, locals := 47 } : Room)).room.cells := Nat.le_refl _
  have hRs : 0 ≤ (headSpec wsX0_lacking ({ frames := 2, cells := 0, slots := 0, locals := 47 } : Room)).room.slots := Nat.le_refl _
  generalize (headSpec wsX0_lacking ({ frames := 2, cells := 0, slots := 0, locals := 47 } : Room)).room = R at hRf hRl hRc hRs ⊢
  have hl := lv_entry [.ref (ad 0), .int c0, .int (nI kd)] (n := 4) (Nat.le_of_ble_eq_true rfl)
  refine W.eq (show entryFrame m args 4 = _ from by rw [hargs, lg_entry_eq]) ?_
  generalize (lg_sl [.ref (ad 0), .int c0, .int (nI kd)] ++ List.replicate (4 - (lg_sl [.ref (ad 0), .int c0, .int (nI kd)]).length) Slot.unset).toArray = ls at hl ⊢
  have hl : lv_has ls 4 [(0, .ref (ad 0)), (1, .int c0), (2, .int (nI kd))] := hl
  generalize hQ : MQ _ _ _ _ _ _ _ = Q
  have hp9 := kP_le kd
  have hm9 := mxT_le F np c0 n
  have hf9 := fC_le F np c0 (nI kd)
  refine lv_iload_n hx hb dX0_lacking_0 rfl (lv_at hl 2 rfl) ?_
  refine nv_if_ne (tgt := 12) hx hb (by omega) dX0_lacking_1 (by decide) (fun c_1 => ?_) (fun c_1 => ?_)
  · refine lv_aload_n hx hb dX0_lacking_12 rfl (lv_at hl 0 rfl) ?_
    refine lv_iload_n hx hb dX0_lacking_13 rfl (lv_at hl 1 rfl) ?_
    refine lv_iload_n hx hb dX0_lacking_14 rfl (lv_at hl 2 rfl) ?_
    refine va_calli (va_runV (As := [.int c0, .int (nI kd)]) (rest := []) ⟨hx, hb, hml, hown, hts⟩ (c_X0_freeOfColour l D cI cZ cO ad n np nq F c0 (nI kd) hn hnp hsk) (cwV 2 hts gX0_lacking_X0_freeOfColour rfl rfl rfl (by decide +kernel) ⟨Nat.le_trans (Nat.le_of_ble_eq_true rfl) hRf, Nat.le_trans (Nat.le_of_ble_eq_true rfl) hRl⟩) (pr_V hP (ci := 0) (q0 := 0) rfl g_at0 rfl hP hK [0, 1, 2] rfl V0_at V0_c) rfl rfl hl.1 rfl (lv_room (Nat.le_of_ble_eq_true rfl)) dX0_lacking_15 ⟨Nat.le_trans (Nat.zero_le _) hRc, Nat.le_trans (Nat.zero_le _) hRs⟩) hS (fun _ _ h => h.elim) (fun _ h => h.elim) (fun r_2 _ t H1 locs ht hvm hw_2 hB hz hk hS => ?_)
    have hP := P_kept hP hk
    obtain rfl := hw_2
    refine lv_istore_n (lv' := [(3, .int (nI (fC F np c0 (nI kd)))), (0, .ref (ad 0)), (1, .int c0), (2, .int (nI kd))]) hx hb dX0_lacking_18 rfl hl (by decide) rfl (fun ls hl => ?_)
    refine lv_iconst (v := nI 0) hx hb dX0_lacking_19 (by decide) ?_
    obtain ⟨tb_KIND_IN_PAIR, hKIND_IN_PAIRZ, hKIND_IN_PAIRT⟩ := hV0.2.2.2.1
    refine va_gets hx hb hKIND_IN_PAIRZ hS hown (hts (.fieldLink RX0 229 "GloveCutters" "KIND_IN_PAIR" "[I") (by decide +kernel)) (fun _ h9 => h9) dX0_lacking_20 ?_
    refine lv_iload_n hx hb dX0_lacking_23 rfl (lv_at hl 3 rfl) ?_
    refine nv_tab hx hb hKIND_IN_PAIRT hS (by omega) dX0_lacking_24 ?_
    refine lv_iload_n hx hb dX0_lacking_25 rfl (lv_at hl 0 rfl) ?_
    refine lv_isub hx hb dX0_lacking_26 ?_
    refine va_mmax hx hb (hml.trans hl.1.symm) hown (hts (.methodLink RX0 226 Lib.Math.max.name) (by decide +kernel)) (hts (.static Lib.Math.max.name) (by decide +kernel)) (hts (.initialized "java/lang/Math") (by decide +kernel)) (hts (.code Lib.Math.max.name Lib.Math.max.code 2 (some .int)) (by decide +kernel)) (Nat.le_trans (Nat.le_of_ble_eq_true rfl) hRf) (Nat.le_trans (Nat.le_of_ble_eq_true rfl) hRl) (Nat.zero_le _) (Nat.zero_le _) dX0_lacking_27 ?_
    rw [max0_sub (by omega) (by omega)]
    rw [← hQ]
    exact W.iret (v := nI ((kP kd) - (fC F np c0 (nI kd)))) hx hb hr (fun t ht hW => ⟨⟨nI ((kP kd) - (fC F np c0 (nI kd))), (), rfl, (by unfold lkN; rw [if_neg (by omega)]), trivial⟩, hS.F ht⟩) hS.2.2 dX0_lacking_30
  · refine lv_aload_n hx hb dX0_lacking_4 rfl (lv_at hl 0 rfl) ?_
    refine lv_iload_n hx hb dX0_lacking_5 rfl (lv_at hl 1 rfl) ?_
    refine va_calli (va_runV (As := [.int c0]) (rest := []) ⟨hx, hb, hml, hown, hts⟩ (c_X0_mostTranksOfOneSkin l D cI cZ cO ad n np nq F c0 hn hnp) (cwV 1 hts gX0_lacking_X0_mostTranksOfOneSkin rfl rfl rfl (by decide +kernel) ⟨Nat.le_trans (Nat.le_of_ble_eq_true rfl) hRf, Nat.le_trans (Nat.le_of_ble_eq_true rfl) hRl⟩) (pr_V hP (ci := 0) (q0 := 0) rfl g_at0 rfl hP hK [0, 1, 2] rfl V0_at V0_c) rfl rfl hl.1 rfl (lv_room (Nat.le_of_ble_eq_true rfl)) dX0_lacking_6 ⟨Nat.le_trans (Nat.zero_le _) hRc, Nat.le_trans (Nat.zero_le _) hRs⟩) hS (fun _ _ h => h.elim) (fun _ h => h.elim) (fun r_3 _ t H1 locs ht hvm hw_3 hB hz hk hS => ?_)
    have hP := P_kept hP hk
    obtain rfl := hw_3
    refine lv_goto (tgt := 18) hx hb dX0_lacking_9 (by decide) ?_
    refine lv_istore_n (lv' := [(3, .int (nI (mxT F np c0 n))), (0, .ref (ad 0)), (1, .int c0), (2, .int (nI kd))]) hx hb dX0_lacking_18 rfl hl (by decide) rfl (fun ls hl => ?_)
    refine lv_iconst (v := nI 0) hx hb dX0_lacking_19 (by decide) ?_
    obtain ⟨tb_KIND_IN_PAIR, hKIND_IN_PAIRZ, hKIND_IN_PAIRT⟩ := hV0.2.2.2.1
    refine va_gets hx hb hKIND_IN_PAIRZ hS hown (hts (.fieldLink RX0 229 "GloveCutters" "KIND_IN_PAIR" "[I") (by decide +kernel)) (fun _ h9 => h9) dX0_lacking_20 ?_
    refine lv_iload_n hx hb dX0_lacking_23 rfl (lv_at hl 3 rfl) ?_
    refine nv_tab hx hb hKIND_IN_PAIRT hS (by omega) dX0_lacking_24 ?_
    refine lv_iload_n hx hb dX0_lacking_25 rfl (lv_at hl 0 rfl) ?_
    refine lv_isub hx hb dX0_lacking_26 ?_
    refine va_mmax hx hb (hml.trans hl.1.symm) hown (hts (.methodLink RX0 226 Lib.Math.max.name) (by decide +kernel)) (hts (.static Lib.Math.max.name) (by decide +kernel)) (hts (.initialized "java/lang/Math") (by decide +kernel)) (hts (.code Lib.Math.max.name Lib.Math.max.code 2 (some .int)) (by decide +kernel)) (Nat.le_trans (Nat.le_of_ble_eq_true rfl) hRf) (Nat.le_trans (Nat.le_of_ble_eq_true rfl) hRl) (Nat.zero_le _) (Nat.zero_le _) dX0_lacking_27 ?_
    rw [max0_sub (by omega) (by omega)]
    rw [← hQ]
    exact W.iret (v := nI ((kP kd) - (mxT F np c0 n))) hx hb hr (fun t ht hW => ⟨⟨nI ((kP kd) - (mxT F np c0 n)), (), rfl, (by unfold lkN; rw [if_pos c_1]), trivial⟩, hS.F ht⟩) hS.2.2 dX0_lacking_30
set_option maxHeartbeats 4000000 in
set_option maxRecDepth 100000 in
/-- firstSkinWithTranks -/
theorem c_X0_firstSkinWithTranks (l : Launch) (D : va_G) (cI cZ cO : ClassId) (ad : Nat → Nat) (n np nq : Nat) (F : Nat → Nat → Int32) (c0 : Int32) (hn : n ≤ 10) (hnp : np ≤ 150) : Met l yX0_firstSkinWithTranks wsX0_firstSkinWithTranks ({ frames := 1, cells := 0, slots := 0, locals := 23 } : Room) (va_Pc [.ref (ad 0), .int c0] (Pr D (gT cI cZ cO) (wG cI cZ cO ad n np nq F) (EnvG (fun _ => False)))) (va_Qi (S := Unit) (fun (r : Int32) (_ : Unit) => r = fI (tsB F np c0) 0 (n - 0)) (fun _ _ => True) (fun _ => False)) 0 0 (fun _ => False) := by
  refine Met.ofW (cc := cX0_firstSkinWithTranks) (maxL := 3) (ret := (some .int)) (by decide) rfl ?_
  intro p e s m args below meth c s₁ B hml hv
  obtain ⟨hargs, hP, hK, hV⟩ := hv
  have hx := B.exec
  have hb := B.bytes
  have hr := B.returns
  have hts := atoms_spec (ws := wsX0_firstSkinWithTranks) B.pre
  have hown : s.vm.findClass RX0 = some m.cls := findClass_of_methodNamed B.named
  have hlocks := B.notSynchronized
  have hS : va_S (fun _ => False) s.heap s.heap [] := va_S.rf
  have hV0 : EnvG (fun _ => False) s := EnvG.nar hV sub_no
  have hiw : ∀ w ∈ wsX00, w ∈ wsX0_firstSkinWithTranks := (fun _ h => List.mem_cons_of_mem _ (List.mem_append_right _ h))
  have hRf : 1 ≤ (headSpec wsX0_firstSkinWithTranks ({ frames := 1, cells := 0, slots := 0, locals := 23 } : Room)).room.frames := Nat.le_refl _
  have hRl : 23 ≤ (headSpec wsX0_firstSkinWithTranks ({ frames := 1, cells := 0, slots := 0, locals := 23 } : Room)).room.locals := Nat.le_refl _
  have hRc : 0 ≤ (headSpec wsX0_firstSkinWithTranks ({ frames := 1, cells := 0, slots := 0, locals := 23 } : Room)).room.cells := Nat.le_refl _
  have hRs : 0 ≤ (headSpec wsX0_firstSkinWithTranks ({ frames := 1, cells := 0, slots := 0, locals := 23 } : Room)).room.slots := Nat.le_refl _
  generalize (headSpec wsX0_firstSkinWithTranks ({ frames := 1, cells := 0, slots := 0, locals := 23 } : Room)).room = R at hRf hRl hRc hRs ⊢
  have hl := lv_entry [.ref (ad 0), .int c0] (n := 3) (Nat.le_of_ble_eq_true rfl)
  refine W.eq (show entryFrame m args 3 = _ from by rw [hargs, lg_entry_eq]) ?_
  generalize (lg_sl [.ref (ad 0), .int c0] ++ List.replicate (3 - (lg_sl [.ref (ad 0), .int c0]).length) Slot.unset).toArray = ls at hl ⊢
  have hl : lv_has ls 3 [(0, .ref (ad 0)), (1, .int c0)] := hl
  generalize hQ : MQ _ _ _ _ _ _ _ = Q
  have hp9 := kP_le 0
  refine lv_iconst (v := nI 0) hx hb dX0_firstSkinWithTranks_0 (by decide) ?_
  refine lv_istore_n (lv' := [(2, .int (nI 0)), (0, .ref (ad 0)), (1, .int c0)]) hx hb dX0_firstSkinWithTranks_1 rfl hl (by decide) rfl (fun ls hl => ?_)
  have L2 : ∀ (fu : Nat) (i : Nat) (H : Heap) (locs : List Loc) (ls : Array Slot), n - i < fu → (i ≤ n) → (fI (tsB F np c0) 0 (n - 0) = fI (tsB F np c0) i (n - i)) → va_P D vwCl (wG cI cZ cO ad n np nq F) H → va_S (fun _ => False) s.heap H locs → lv_has ls 3 [(0, .ref (ad 0)), (1, .int c0), (2, .int (nI i))] → W p l e R s m args below meth c H locs 0 0 Q (F0 m 2 ls []) := by
    intro fu
    induction fu with
    | zero => intro _ _ _ _ h; exact absurd h (Nat.not_lt_zero _)
    | succ fu ih2 =>
      intro i H locs ls hm2 h1 h2 hP  hS hl
      refine lv_iload_n hx hb dX0_firstSkinWithTranks_2 rfl (lv_at hl 2 rfl) ?_
      refine lv_aload_n hx hb dX0_firstSkinWithTranks_3 rfl (lv_at hl 0 rfl) ?_
      refine va_get (D := D) (ci := 0) (v := .int (nI n)) (C := RX0) (T := TX0) (N := 16) hx hb hts hiw hown hK hP 0 g_at0 rfl 0 (by decide) (hts (.fieldLink RX0 56 "GloveCutters" "skins" "I") (by decide +kernel)) (fun _ h9 => h9) rfl dX0_firstSkinWithTranks_4 ?_
      refine nv_icmp_ge (tgt := 41) hx hb (by omega) (by omega) dX0_firstSkinWithTranks_7 (by decide) (fun c_1 => ?_) (fun c_1 => ?_)
      · refine lv_iconst (v := -1) hx hb dX0_firstSkinWithTranks_41 (by decide) ?_
        rw [← hQ]
        exact W.iret (v := (-1)) hx hb hr (fun t ht hW => ⟨⟨(-1), (), rfl, (h2.trans (fI_e (by omega))).symm, trivial⟩, hS.F ht⟩) hS.2.2 dX0_firstSkinWithTranks_42
      · refine lv_aload_n hx hb dX0_firstSkinWithTranks_10 rfl (lv_at hl 0 rfl) ?_
        refine va_get (D := D) (ci := 0) (v := .ref (ad 1)) (C := RX0) (T := TX0) (N := 16) hx hb hts hiw hown hK hP 0 g_at0 rfl 1 (by decide) (hts (.fieldLink RX0 9 "GloveCutters" "skinColour" "[I") (by decide +kernel)) (fun _ h9 => h9) rfl dX0_firstSkinWithTranks_11 ?_
        refine lv_iload_n hx hb dX0_firstSkinWithTranks_14 rfl (lv_at hl 2 rfl) ?_
        refine nv_iald hx hb hK hP 1 0 g_at1 rfl (by omega) (by omega) dX0_firstSkinWithTranks_15 ?_
        refine lv_iload_n hx hb dX0_firstSkinWithTranks_16 rfl (lv_at hl 1 rfl) ?_
        refine lv_icmp_ne (tgt := 35) hx hb dX0_firstSkinWithTranks_17 (by decide) (fun c_2 => ?_) (fun c_2 => ?_)
        · refine lv_iinc (k := 2) (v := nI (i + 1)) (lv' := [(2, .int (nI (i + 1))), (0, .ref (ad 0)), (1, .int c0)]) hx hb dX0_firstSkinWithTranks_35 hl rfl (nI_add i 1) (by decide) rfl (fun ls hl => ?_)
          refine lv_goto (tgt := 2) hx hb dX0_firstSkinWithTranks_38 (by decide) ?_
          exact ih2 (i + 1) _ _ _ (by omega) (by omega) (h2.trans (fI_n (by omega) (tsB_1 c_2))) hP hS (lv_sub hl [1, 2, 0] rfl)
        · refine lv_aload_n hx hb dX0_firstSkinWithTranks_20 rfl (lv_at hl 0 rfl) ?_
          refine lv_iload_n hx hb dX0_firstSkinWithTranks_21 rfl (lv_at hl 2 rfl) ?_
          refine va_calli (va_runV (As := [.int (nI i)]) (rest := []) ⟨hx, hb, hml, hown, hts⟩ (c_X0_freeTranks l D cI cZ cO ad n np nq F i hnp) (cwV 1 hts gX0_firstSkinWithTranks_X0_freeTranks rfl rfl rfl (by decide +kernel) ⟨Nat.le_trans (Nat.le_of_ble_eq_true rfl) hRf, Nat.le_trans (Nat.le_of_ble_eq_true rfl) hRl⟩) (pr_V hP (ci := 0) (q0 := 0) rfl g_at0 rfl hP hK [0, 1, 2] rfl V0_at V0_c) rfl rfl hl.1 rfl (lv_room (Nat.le_of_ble_eq_true rfl)) dX0_firstSkinWithTranks_22 ⟨Nat.le_trans (Nat.zero_le _) hRc, Nat.le_trans (Nat.zero_le _) hRs⟩) hS (fun _ _ h => h.elim) (fun _ h => h.elim) (fun r_3 _ t H1 locs ht hvm hw_3 hB hz hk hS => ?_)
          have hP := P_kept hP hk
          obtain rfl := hw_3
          have hb9 := fT_le F np i
          obtain ⟨tb_KIND_IN_PAIR, hKIND_IN_PAIRZ, hKIND_IN_PAIRT⟩ := hV0.2.2.2.1
          refine va_gets hx hb hKIND_IN_PAIRZ hS hown (hts (.fieldLink RX0 229 "GloveCutters" "KIND_IN_PAIR" "[I") (by decide +kernel)) (fun _ h9 => h9) dX0_firstSkinWithTranks_25 ?_
          refine lv_iconst (v := nI 0) hx hb dX0_firstSkinWithTranks_28 (by decide) ?_
          refine nv_tab hx hb hKIND_IN_PAIRT hS (by omega) dX0_firstSkinWithTranks_29 ?_
          refine nv_icmp_lt (tgt := 35) hx hb (by omega) (by omega) dX0_firstSkinWithTranks_30 (by decide) (fun c_4 => ?_) (fun c_4 => ?_)
          · refine lv_iinc (k := 2) (v := nI (i + 1)) (lv' := [(2, .int (nI (i + 1))), (0, .ref (ad 0)), (1, .int c0)]) hx hb dX0_firstSkinWithTranks_35 hl rfl (nI_add i 1) (by decide) rfl (fun ls hl => ?_)
            refine lv_goto (tgt := 2) hx hb dX0_firstSkinWithTranks_38 (by decide) ?_
            exact ih2 (i + 1) _ _ _ (by omega) (by omega) (h2.trans (fI_n (by omega) (tsB_2 (by show ¬ kP 0 ≤ _; omega)))) hP hS (lv_sub hl [1, 2, 0] rfl)
          · refine lv_iload_n hx hb dX0_firstSkinWithTranks_33 rfl (lv_at hl 2 rfl) ?_
            rw [← hQ]
            exact W.iret (v := nI i) hx hb hr (fun t ht hW => ⟨⟨nI i, (), rfl, (h2.trans (fI_y (by omega) (tsB_t c_2 (by show kP 0 ≤ _; omega)))).symm, trivial⟩, hS.F ht⟩) hS.2.2 dX0_firstSkinWithTranks_34
  exact L2 _ 0 _ _ _ (Nat.lt_succ_self _) (by omega) rfl hP hS (lv_sub hl [1, 2, 0] rfl)
end
section
/-! what each call of the face answers: (0, answer), or (the number of its exception, 0) -/
theorem inR_in {j n : Nat} (hj : j < n) (hn : n < 2 ^ 31) : inR (nI j) n = true := by rw [inR_n (by omega) hn, decide_eq_true hj]
def cl (x : Int32) : Nat := x.toNatClampNeg
theorem cl_n {j : Nat} (h : j < 2 ^ 31) : cl (nI j) = j := nI_clamp h
def spCell (n : Nat) (F : Nat → Nat → Int32) (s x y : Int32) : Nat × Int32 := if (inR s n && (inR x 12 && inR y 8)) = true then (0, F (14 + cl s) (12 * cl y + cl x)) else (1, 0)
theorem spCell_y {n : Nat} {F : Nat → Nat → Int32} {s x y : Nat} (hn : n ≤ 10) (h1 : s < n) (h2 : x < 12) (h3 : y < 8) : spCell n F (nI s) (nI x) (nI y) = (0, F (14 + s) (12 * y + x)) := by
  unfold spCell
  rw [inR_in h1 (by omega), inR_in h2 (by omega), inR_in h3 (by omega), cl_n (by omega), cl_n (by omega), cl_n (by omega)]; rfl
def spSkin (n : Nat) (F : Nat → Nat → Int32) (s w : Int32) : Nat × Int32 := if (inR s n && inR w 6) = true then (0, skT F (cl s) (cl w)) else (1, 0)
theorem spSkin_y {n : Nat} {F : Nat → Nat → Int32} {s w : Nat} (hn : n ≤ 10) (h1 : s < n) (h2 : w < 6) : spSkin n F (nI s) (nI w) = (0, skT F s w) := by
  unfold spSkin
  rw [inR_in h1 (by omega), inR_in h2 (by omega), cl_n (by omega), cl_n (by omega)]; rfl
def spPlace (n : Nat) (F : Nat → Nat → Int32) (s k : Int32) (tb : Bool) : Nat × Int32 := if inR s n = true then (if inR k 4 = true then (0, fI (fitA (F (14 + cl s)) (cl k) tb) 0 (96 - 0)) else (2, 0)) else (1, 0)
theorem spPlace_y {n : Nat} {F : Nat → Nat → Int32} {s k : Nat} {tb : Bool} (hn : n ≤ 10) (h1 : s < n) (h2 : k < 4) : spPlace n F (nI s) (nI k) tb = (0, fI (fitA (F (14 + s)) k tb) 0 (96 - 0)) := by
  unfold spPlace
  rw [inR_in h1 (by omega), inR_in h2 (by omega), cl_n (by omega), cl_n (by omega)]; rfl
def spPiece (np : Nat) (F : Nat → Nat → Int32) (p w : Int32) : Nat × Int32 := if (inR p np && inR w 4) = true then (0, pcT F (cl p) (cl w)) else (1, 0)
theorem spPiece_y {np : Nat} {F : Nat → Nat → Int32} {p w : Nat} (hn : np ≤ 150) (h1 : p < np) (h2 : w < 4) : spPiece np F (nI p) (nI w) = (0, pcT F p w) := by
  unfold spPiece
  rw [inR_in h1 (by omega), inR_in h2 (by omega), cl_n (by omega), cl_n (by omega)]; rfl
def spPair (nq : Nat) (F : Nat → Nat → Int32) (p w : Int32) : Nat × Int32 := if (inR p nq && inR w 5) = true then (0, prT F (cl p) (cl w)) else (1, 0)
theorem spPair_y {nq : Nat} {F : Nat → Nat → Int32} {p w : Nat} (hn : nq ≤ 20) (h1 : p < nq) (h2 : w < 5) : spPair nq F (nI p) (nI w) = (0, prT F p w) := by
  unfold spPair
  rw [inR_in h1 (by omega), inR_in h2 (by omega), cl_n (by omega), cl_n (by omega)]; rfl
def spCount (n np nq : Nat) (F : Nat → Nat → Int32) (w : Int32) : Nat × Int32 := if inR w 7 = true then (0, cnT n np nq F (cl w)) else (1, 0)
theorem spCount_y {n np nq : Nat} {F : Nat → Nat → Int32} {w : Nat} (h2 : w < 7) : spCount n np nq F (nI w) = (0, cnT n np nq F w) := by
  unfold spCount
  rw [inR_in h2 (by omega), cl_n (by omega)]; rfl
def spLacks (n np : Nat) (F : Nat → Nat → Int32) (c k : Int32) : Nat × Int32 := if (inR c 6 && inR k 4) = true then (0, nI (lkN F n np c (cl k))) else (1, 0)
theorem spLacks_y {n np : Nat} {F : Nat → Nat → Int32} {c : Int32} {k : Nat} (h1 : inR c 6 = true) (h2 : k < 4) : spLacks n np F c (nI k) = (0, nI (lkN F n np c k)) := by
  unfold spLacks
  rw [h1, inR_in h2 (by omega), cl_n (by omega)]; rfl
def prN (F : Nat → Nat → Int32) (n np : Nat) (c : Int32) : Nat → Nat | 0 => tP F np c n | k + 1 => min (prN F n np c k) (fC F np c (nI (k + 1)) / kP (k + 1))
def spPairs (n np : Nat) (F : Nat → Nat → Int32) (c : Int32) : Nat × Int32 := if inR c 6 = true then (0, nI (prN F n np c 3)) else (1, 0)
theorem spPairs_y {n np : Nat} {F : Nat → Nat → Int32} {c : Int32} (h1 : inR c 6 = true) : spPairs n np F c = (0, nI (prN F n np c 3)) := by
  unfold spPairs
  rw [h1]; rfl
theorem prN_le (F : Nat → Nat → Int32) (n np : Nat) (c : Int32) : ∀ k, prN F n np c k ≤ np * n
  | 0 => tP_le F np c n
  | k + 1 => Nat.le_trans (Nat.min_le_left _ _) (prN_le F n np c k)
/-- k numbers of g more in a checksum -/
def dS (g : Nat → Int32) (d : Int64) : Nat → Int64 | 0 => d | k + 1 => dS g d k * 31 + (g k).toInt64
def dK (F : Nat → Nat → Int32) (d : Int64) : Nat → Int64 | 0 => d | s + 1 => dS (F (14 + s)) (dS (skT F s) (dK F d s) 6) 96
def dP (F : Nat → Nat → Int32) (d : Int64) : Nat → Int64 | 0 => d | p + 1 => dS (pcT F p) (dP F d p) 4
def dQ (F : Nat → Nat → Int32) (d : Int64) : Nat → Int64 | 0 => d | q + 1 => dS (prT F q) (dQ F d q) 5
def dG (n np nq : Nat) (F : Nat → Nat → Int32) : Int64 := dQ F (dP F (dK F (dS (cnT n np nq F) 1087 7) n) np) nq
end
section
set_option maxHeartbeats 4000000 in
set_option maxRecDepth 100000 in
/-- cell -/
theorem c_X0_cell (l : Launch) (hst : l.stackTraces = false) (D : va_G) (cI cZ cO : ClassId) (ad : Nat → Nat) (n np nq : Nat) (F : Nat → Nat → Int32) (s0 x0 y0 : Int32) (hn : n ≤ 10) : vx_Met l yX0_cell wsX0_cell ({ frames := 7, cells := 2, slots := 12, locals := 103 } : Room) (va_Pc [.ref (ad 0), .int s0, .int x0, .int y0] (Pr D (gT cI cZ cO) (wG cI cZ cO ad n np nq F) (EnvG (fun _ => False)))) (va_Qi (S := Unit) (fun (r : Int32) (_ : Unit) => spCell n F s0 x0 y0 = (0, r)) (fun _ _ => True) (fun _ => False)) (vx_X (S := Unit) (fun _ => True) (fun E (_ : Unit) (_ : State) => E = nX ∧ spCell n F s0 x0 y0 = (1, 0)) (fun _ => False)) 2 12 (fun _ => False) := by
  refine vx_ofW (cc := cX0_cell) (maxL := 4) (ret := (some .int)) (by decide) rfl ?_
  intro p e s m args below meth c s₁ B hml htab hv
  obtain ⟨hargs, hP, hK, hV⟩ := hv
  have hx := B.exec
  have hb := B.bytes
  have hr := B.returns
  have hts := atoms_spec (ws := wsX0_cell) B.pre
  have hown : s.vm.findClass RX0 = some m.cls := findClass_of_methodNamed B.named
  have hlocks := B.notSynchronized
  have hS : va_S (fun _ => False) s.heap s.heap [] := va_S.rf
  have hV0 : EnvG (fun _ => False) s := EnvG.nar hV sub_no
  have hiw : ∀ w ∈ wsX00, w ∈ wsX0_cell := (fun _ h => List.mem_cons_of_mem _ (List.mem_append_left _ (List.mem_append_right _ h)))
  have hRf : 7 ≤ (headSpec wsX0_cell ({ frames := 7, cells := 2, slots := 12, locals := 103 } : Room)).room.frames := Nat.le_refl _
  have hRl : 103 ≤ (headSpec wsX0_cell ({ frames := 7, cells := 2, slots := 12, locals := 103 } : Room)).room.locals := Nat.le_refl _
  have hRc : 2 ≤ (headSpec wsX0_cell ({ frames := 7, cells := 2, slots := 12, locals := 103 } : Room)).room.cells := Nat.le_refl _
  have hRs : 12 ≤ (headSpec wsX0_cell ({ frames := 7, cells := 2, slots := 12, locals := 103 } : Room)).room.slots := Nat.le_refl _
  generalize (headSpec wsX0_cell ({ frames := 7, cells := 2, slots := 12, locals := 103 } : Room)).room = R at hRf hRl hRc hRs ⊢
  have hl := lv_entry [.ref (ad 0), .int s0, .int x0, .int y0] (n := 4) (Nat.le_of_ble_eq_true rfl)
  refine W.eq (show entryFrame m args 4 = _ from by rw [hargs, lg_entry_eq]) ?_
  generalize (lg_sl [.ref (ad 0), .int s0, .int x0, .int y0] ++ List.replicate (4 - (lg_sl [.ref (ad 0), .int s0, .int x0, .int y0]).length) Slot.unset).toArray = ls at hl ⊢
  have hl : lv_has ls 4 [(0, .ref (ad 0)), (1, .int s0), (2, .int x0), (3, .int y0)] := hl
  generalize hQ : vx_MQ _ _ _ _ _ _ _ _ = Q
  refine lv_aload_n hx hb dX0_cell_0 rfl (lv_at hl 0 rfl) ?_
  refine lv_iload_n hx hb dX0_cell_1 rfl (lv_at hl 1 rfl) ?_
  refine vx_callv (vx_runV (As := [.int s0]) (rest := []) ⟨hx, hb, hml, hown, hts⟩ (c_X0_needSkin l hst D cI cZ cO ad n np nq F s0 hn) (cwV 1 hts gX0_cell_X0_needSkin rfl rfl rfl (by decide +kernel) ⟨Nat.le_trans (Nat.le_of_ble_eq_true rfl) hRf, Nat.le_trans (Nat.le_of_ble_eq_true rfl) hRl⟩) (pr_V hP (ci := 0) (q0 := 0) rfl g_at0 rfl hP hK [0, 1, 2] rfl (hV0.at hS sub_id sub_id) EnvG_c) rfl rfl hl.1 rfl (lv_room (Nat.le_of_ble_eq_true rfl)) dX0_cell_2 ⟨Nat.le_trans (Nat.le_of_ble_eq_true rfl) hRc, Nat.le_trans (Nat.le_of_ble_eq_true rfl) hRs⟩) hS (fun _ _ h => h.elim) (fun _ h => h.elim) (fun _ _ h => h.elim) (fun E ce q9 _ t H1 locs ht hvm hpx hbx _ hk hS hce hcv hcl => ?_) (fun _ t H1 locs ht hvm hw_1 hB hz hk hS => ?_)
  · rw [← hQ]
    exact vx_out (fun x hx9 => (htab x hx9).elim) hlocks hce hcv hcl (fun t ht hal => ⟨(), trivial, ⟨hbx.1, by unfold spCell; rw [hbx.2]; rfl⟩, hS.F ht⟩) (fun z hz => (hS.2.2 z hz).elim) (by omega) (by omega)
  have hP := P_kept hP hk
  obtain ⟨j, hj, rfl⟩ := inR_t (by omega) hw_1
  refine lv_iload_n hx hb dX0_cell_5 rfl (lv_at hl 2 rfl) ?_
  refine lv_iload_n hx hb dX0_cell_6 rfl (lv_at hl 3 rfl) ?_
  refine vx_callv (vx_runS (As := [.int x0, .int y0]) (rest := []) ⟨hx, hb, hml, hown, hts⟩ (c_X0_needCell l hst D x0 y0 ) (va_cwS 2 hts gX0_cell_X0_needCell rfl rfl rfl (by decide +kernel) ⟨Nat.le_trans (Nat.le_of_ble_eq_true rfl) hRf, Nat.le_trans (Nat.le_of_ble_eq_true rfl) hRl⟩) (pr_S (P_nil) hK [] rfl (hV0.at hS sub_id sub_id) EnvG_c) rfl rfl hl.1 rfl (lv_room (Nat.le_of_ble_eq_true rfl)) dX0_cell_7 ⟨Nat.le_trans (Nat.le_of_ble_eq_true rfl) hRc, Nat.le_trans (Nat.le_of_ble_eq_true rfl) hRs⟩) hS (fun _ _ h => h.elim) (fun _ h => h.elim) (fun _ _ h => h.elim) (fun E ce q9 _ t H1 locs ht hvm hpx hbx _ hk hS hce hcv hcl => ?_) (fun _ t H1 locs ht hvm hw_2 hB hz hk hS => ?_)
  · rw [← hQ]
    exact vx_out (fun x hx9 => (htab x hx9).elim) hlocks hce hcv hcl (fun t ht hal => ⟨(), trivial, ⟨hbx.1, by unfold spCell; rw [inR_in hj (by omega), hbx.2]; rfl⟩, hS.F ht⟩) (fun z hz => (hS.2.2 z hz).elim) (by omega) (by omega)
  have hP := P_kept hP hk
  obtain ⟨x9, hx9, rfl⟩ := inR_t (by omega) hw_2.1
  obtain ⟨y9, hy9, rfl⟩ := inR_t (by omega) hw_2.2
  refine lv_aload_n hx hb dX0_cell_10 rfl (lv_at hl 0 rfl) ?_
  refine va_get (D := D) (ci := 0) (v := .ref (ad 3)) (C := RX0) (T := TX0) (N := 16) hx hb hts hiw hown hK hP 0 g_at0 rfl 3 (by decide) (hts (.fieldLink RX0 18 "GloveCutters" "skinCells" "[[I") (by decide +kernel)) (fun _ h9 => h9) rfl dX0_cell_11 ?_
  refine lv_iload_n hx hb dX0_cell_14 rfl (lv_at hl 1 rfl) ?_
  refine nv_aald hx hb hK hP 3 2 g_at3 rfl (by omega) (by decide) (if_pos (by omega)) dX0_cell_15 ?_
  refine lv_bipush (v := nI 12) hx hb dX0_cell_16 (by decide) ?_
  refine lv_iload_n hx hb dX0_cell_18 rfl (lv_at hl 3 rfl) ?_
  refine nv_imul hx hb dX0_cell_19 ?_
  refine lv_iload_n hx hb dX0_cell_20 rfl (lv_at hl 2 rfl) ?_
  refine nv_iadd hx hb dX0_cell_21 ?_
  refine nv_iald hx hb hK hP (14 + j) 0 (g_atr (k := j) (by omega)) rfl (by omega) (by omega) dX0_cell_22 ?_
  rw [← hQ]
  refine vx_ret ?_
  exact W.iret (v := F (14 + j) ((12 * y9) + x9)) hx hb hr (fun t ht hW => ⟨⟨F (14 + j) ((12 * y9) + x9), (), rfl, (spCell_y hn hj hx9 hy9), trivial⟩, hS.F ht⟩) hS.2.2 dX0_cell_23
set_option maxHeartbeats 4000000 in
set_option maxRecDepth 100000 in
/-- skin -/
theorem c_X0_skin (l : Launch) (hst : l.stackTraces = false) (D : va_G) (cI cZ cO : ClassId) (ad : Nat → Nat) (n np nq : Nat) (F : Nat → Nat → Int32) (s0 w0 : Int32) (hn : n ≤ 10) : vx_Met l yX0_skin wsX0_skin ({ frames := 7, cells := 2, slots := 12, locals := 103 } : Room) (va_Pc [.ref (ad 0), .int s0, .int w0] (Pr D (gT cI cZ cO) (wG cI cZ cO ad n np nq F) (EnvG (fun _ => False)))) (va_Qi (S := Unit) (fun (r : Int32) (_ : Unit) => spSkin n F s0 w0 = (0, r)) (fun _ _ => True) (fun _ => False)) (vx_X (S := Unit) (fun _ => True) (fun E (_ : Unit) (_ : State) => E = nX ∧ spSkin n F s0 w0 = (1, 0)) (fun _ => False)) 2 12 (fun _ => False) := by
  refine vx_ofW (cc := cX0_skin) (maxL := 3) (ret := (some .int)) (by decide) rfl ?_
  intro p e s m args below meth c s₁ B hml htab hv
  obtain ⟨hargs, hP, hK, hV⟩ := hv
  have hx := B.exec
  have hb := B.bytes
  have hr := B.returns
  have hts := atoms_spec (ws := wsX0_skin) B.pre
  have hown : s.vm.findClass RX0 = some m.cls := findClass_of_methodNamed B.named
  have hlocks := B.notSynchronized
  have hS : va_S (fun _ => False) s.heap s.heap [] := va_S.rf
  have hV0 : EnvG (fun _ => False) s := EnvG.nar hV sub_no
  have hiw : ∀ w ∈ wsX00, w ∈ wsX0_skin := (fun _ h => List.mem_cons_of_mem _ (List.mem_append_left _ (List.mem_append_right _ h)))
  have hRf : 7 ≤ (headSpec wsX0_skin ({ frames := 7, cells := 2, slots := 12, locals := 103 } : Room)).room.frames := Nat.le_refl _
  have hRl : 103 ≤ (headSpec wsX0_skin ({ frames := 7, cells := 2, slots := 12, locals := 103 } : Room)).room.locals := Nat.le_refl _
  have hRc : 2 ≤ (headSpec wsX0_skin ({ frames := 7, cells := 2, slots := 12, locals := 103 } : Room)).room.cells := Nat.le_refl _
  have hRs : 12 ≤ (headSpec wsX0_skin ({ frames := 7, cells := 2, slots := 12, locals := 103 } : Room)).room.slots := Nat.le_refl _
  generalize (headSpec wsX0_skin ({ frames := 7, cells := 2, slots := 12, locals := 103 } : Room)).room = R at hRf hRl hRc hRs ⊢
  have hl := lv_entry [.ref (ad 0), .int s0, .int w0] (n := 3) (Nat.le_of_ble_eq_true rfl)
  refine W.eq (show entryFrame m args 3 = _ from by rw [hargs, lg_entry_eq]) ?_
  generalize (lg_sl [.ref (ad 0), .int s0, .int w0] ++ List.replicate (3 - (lg_sl [.ref (ad 0), .int s0, .int w0]).length) Slot.unset).toArray = ls at hl ⊢
  have hl : lv_has ls 3 [(0, .ref (ad 0)), (1, .int s0), (2, .int w0)] := hl
  generalize hQ : vx_MQ _ _ _ _ _ _ _ _ = Q
  refine lv_aload_n hx hb dX0_skin_0 rfl (lv_at hl 0 rfl) ?_
  refine lv_iload_n hx hb dX0_skin_1 rfl (lv_at hl 1 rfl) ?_
  refine vx_callv (vx_runV (As := [.int s0]) (rest := []) ⟨hx, hb, hml, hown, hts⟩ (c_X0_needSkin l hst D cI cZ cO ad n np nq F s0 hn) (cwV 1 hts gX0_skin_X0_needSkin rfl rfl rfl (by decide +kernel) ⟨Nat.le_trans (Nat.le_of_ble_eq_true rfl) hRf, Nat.le_trans (Nat.le_of_ble_eq_true rfl) hRl⟩) (pr_V hP (ci := 0) (q0 := 0) rfl g_at0 rfl hP hK [0, 1, 2] rfl (hV0.at hS sub_id sub_id) EnvG_c) rfl rfl hl.1 rfl (lv_room (Nat.le_of_ble_eq_true rfl)) dX0_skin_2 ⟨Nat.le_trans (Nat.le_of_ble_eq_true rfl) hRc, Nat.le_trans (Nat.le_of_ble_eq_true rfl) hRs⟩) hS (fun _ _ h => h.elim) (fun _ h => h.elim) (fun _ _ h => h.elim) (fun E ce q9 _ t H1 locs ht hvm hpx hbx _ hk hS hce hcv hcl => ?_) (fun _ t H1 locs ht hvm hw_1 hB hz hk hS => ?_)
  · rw [← hQ]
    exact vx_out (fun x hx9 => (htab x hx9).elim) hlocks hce hcv hcl (fun t ht hal => ⟨(), trivial, ⟨hbx.1, by unfold spSkin; rw [hbx.2]; rfl⟩, hS.F ht⟩) (fun z hz => (hS.2.2 z hz).elim) (by omega) (by omega)
  have hP := P_kept hP hk
  obtain ⟨j, hj, rfl⟩ := inR_t (by omega) hw_1
  refine lv_iload_n hx hb dX0_skin_5 rfl (lv_at hl 2 rfl) ?_
  refine lv_bipush (v := nI 6) hx hb dX0_skin_6 (by decide) ?_
  refine vx_callv (vx_runS (As := [.int w0, .int (nI 6)]) (rest := []) ⟨hx, hb, hml, hown, hts⟩ (c_X0_needWhat l hst D w0 6 ) (va_cwS 2 hts gX0_skin_X0_needWhat rfl rfl rfl (by decide +kernel) ⟨Nat.le_trans (Nat.le_of_ble_eq_true rfl) hRf, Nat.le_trans (Nat.le_of_ble_eq_true rfl) hRl⟩) (pr_S (P_nil) hK [] rfl (hV0.at hS sub_id sub_id) EnvG_c) rfl rfl hl.1 rfl (lv_room (Nat.le_of_ble_eq_true rfl)) dX0_skin_8 ⟨Nat.le_trans (Nat.le_of_ble_eq_true rfl) hRc, Nat.le_trans (Nat.le_of_ble_eq_true rfl) hRs⟩) hS (fun _ _ h => h.elim) (fun _ h => h.elim) (fun _ _ h => h.elim) (fun E ce q9 _ t H1 locs ht hvm hpx hbx _ hk hS hce hcv hcl => ?_) (fun _ t H1 locs ht hvm hw_2 hB hz hk hS => ?_)
  · rw [← hQ]
    exact vx_out (fun x hx9 => (htab x hx9).elim) hlocks hce hcv hcl (fun t ht hal => ⟨(), trivial, ⟨hbx.1, by unfold spSkin; rw [inR_in hj (by omega), hbx.2]; rfl⟩, hS.F ht⟩) (fun z hz => (hS.2.2 z hz).elim) (by omega) (by omega)
  have hP := P_kept hP hk
  obtain ⟨w9, hw9, rfl⟩ := inR_t (by omega) hw_2
  refine lv_aload_n hx hb dX0_skin_11 rfl (lv_at hl 0 rfl) ?_
  refine lv_iload_n hx hb dX0_skin_12 rfl (lv_at hl 1 rfl) ?_
  refine lv_iload_n hx hb dX0_skin_13 rfl (lv_at hl 2 rfl) ?_
  refine va_calli (va_runV (As := [.int (nI j), .int (nI w9)]) (rest := []) ⟨hx, hb, hml, hown, hts⟩ (c_X0_tellSkin l D cI cZ cO ad n np nq F j w9 (by omega) (by omega)) (cwV 2 hts gX0_skin_X0_tellSkin rfl rfl rfl (by decide +kernel) ⟨Nat.le_trans (Nat.le_of_ble_eq_true rfl) hRf, Nat.le_trans (Nat.le_of_ble_eq_true rfl) hRl⟩) (pr_V hP (ci := 0) (q0 := 0) rfl g_at0 rfl hP hK [0, 1, 2] rfl V0_at V0_c) rfl rfl hl.1 rfl (lv_room (Nat.le_of_ble_eq_true rfl)) dX0_skin_14 ⟨Nat.le_trans (Nat.le_of_ble_eq_true rfl) hRc, Nat.le_trans (Nat.le_of_ble_eq_true rfl) hRs⟩) hS (fun _ _ h => h.elim) (fun _ h => h.elim) (fun r_3 _ t H1 locs ht hvm hw_3 hB hz hk hS => ?_)
  have hP := P_kept hP hk
  obtain rfl := hw_3
  rw [← hQ]
  refine vx_ret ?_
  exact W.iret (v := skT F j w9) hx hb hr (fun t ht hW => ⟨⟨skT F j w9, (), rfl, (spSkin_y hn hj hw9), trivial⟩, hS.F ht⟩) hS.2.2 dX0_skin_17
set_option maxHeartbeats 4000000 in
set_option maxRecDepth 100000 in
/-- place -/
theorem c_X0_place (l : Launch) (hst : l.stackTraces = false) (D : va_G) (cI cZ cO : ClassId) (ad : Nat → Nat) (n np nq : Nat) (F : Nat → Nat → Int32) (s0 k0 : Int32) (tb : Bool) (hn : n ≤ 10) : vx_Met l yX0_place wsX0_place ({ frames := 7, cells := 2, slots := 12, locals := 103 } : Room) (va_Pc [.ref (ad 0), .int s0, .int k0, .int (bI tb)] (Pr D (gT cI cZ cO) (wG cI cZ cO ad n np nq F) (EnvG (fun _ => False)))) (va_Qi (S := Unit) (fun (r : Int32) (_ : Unit) => spPlace n F s0 k0 tb = (0, r)) (fun _ _ => True) (fun _ => False)) (vx_X (S := Unit) (fun _ => True) (fun E (_ : Unit) (_ : State) => (E = nX ∧ spPlace n F s0 k0 tb = (1, 0)) ∨ (E = nA ∧ spPlace n F s0 k0 tb = (2, 0))) (fun _ => False)) 2 12 (fun _ => False) := by
  refine vx_ofW (cc := cX0_place) (maxL := 4) (ret := (some .int)) (by decide) rfl ?_
  intro p e s m args below meth c s₁ B hml htab hv
  obtain ⟨hargs, hP, hK, hV⟩ := hv
  have hx := B.exec
  have hb := B.bytes
  have hr := B.returns
  have hts := atoms_spec (ws := wsX0_place) B.pre
  have hown : s.vm.findClass RX0 = some m.cls := findClass_of_methodNamed B.named
  have hlocks := B.notSynchronized
  have hS : va_S (fun _ => False) s.heap s.heap [] := va_S.rf
  have hV0 : EnvG (fun _ => False) s := EnvG.nar hV sub_no
  have hiw : ∀ w ∈ wsX00, w ∈ wsX0_place := (fun _ h => List.mem_cons_of_mem _ (List.mem_append_left _ (List.mem_append_left _ (List.mem_append_right _ h))))
  have hRf : 7 ≤ (headSpec wsX0_place ({ frames := 7, cells := 2, slots := 12, locals := 103 } : Room)).room.frames := Nat.le_refl _
  have hRl : 103 ≤ (headSpec wsX0_place ({ frames := 7, cells := 2, slots := 12, locals := 103 } : Room)).room.locals := Nat.le_refl _
  have hRc : 2 ≤ (headSpec wsX0_place ({ frames := 7, cells := 2, slots := 12, locals := 103 } : Room)).room.cells := Nat.le_refl _
  have hRs : 12 ≤ (headSpec wsX0_place ({ frames := 7, cells := 2, slots := 12, locals := 103 } : Room)).room.slots := Nat.le_refl _
  generalize (headSpec wsX0_place ({ frames := 7, cells := 2, slots := 12, locals := 103 } : Room)).room = R at hRf hRl hRc hRs ⊢
  have hl := lv_entry [.ref (ad 0), .int s0, .int k0, .int (bI tb)] (n := 4) (Nat.le_of_ble_eq_true rfl)
  refine W.eq (show entryFrame m args 4 = _ from by rw [hargs, lg_entry_eq]) ?_
  generalize (lg_sl [.ref (ad 0), .int s0, .int k0, .int (bI tb)] ++ List.replicate (4 - (lg_sl [.ref (ad 0), .int s0, .int k0, .int (bI tb)]).length) Slot.unset).toArray = ls at hl ⊢
  have hl : lv_has ls 4 [(0, .ref (ad 0)), (1, .int s0), (2, .int k0), (3, .int (bI tb))] := hl
  generalize hQ : vx_MQ _ _ _ _ _ _ _ _ = Q
  refine lv_aload_n hx hb dX0_place_0 rfl (lv_at hl 0 rfl) ?_
  refine lv_iload_n hx hb dX0_place_1 rfl (lv_at hl 1 rfl) ?_
  refine vx_callv (vx_runV (As := [.int s0]) (rest := []) ⟨hx, hb, hml, hown, hts⟩ (c_X0_needSkin l hst D cI cZ cO ad n np nq F s0 hn) (cwV 1 hts gX0_place_X0_needSkin rfl rfl rfl (by decide +kernel) ⟨Nat.le_trans (Nat.le_of_ble_eq_true rfl) hRf, Nat.le_trans (Nat.le_of_ble_eq_true rfl) hRl⟩) (pr_V hP (ci := 0) (q0 := 0) rfl g_at0 rfl hP hK [0, 1, 2] rfl (hV0.at hS sub_id sub_id) EnvG_c) rfl rfl hl.1 rfl (lv_room (Nat.le_of_ble_eq_true rfl)) dX0_place_2 ⟨Nat.le_trans (Nat.le_of_ble_eq_true rfl) hRc, Nat.le_trans (Nat.le_of_ble_eq_true rfl) hRs⟩) hS (fun _ _ h => h.elim) (fun _ h => h.elim) (fun _ _ h => h.elim) (fun E ce q9 _ t H1 locs ht hvm hpx hbx _ hk hS hce hcv hcl => ?_) (fun _ t H1 locs ht hvm hw_1 hB hz hk hS => ?_)
  · rw [← hQ]
    exact vx_out (fun x hx9 => (htab x hx9).elim) hlocks hce hcv hcl (fun t ht hal => ⟨(), trivial, Or.inl ⟨hbx.1, by unfold spPlace; rw [hbx.2]; rfl⟩, hS.F ht⟩) (fun z hz => (hS.2.2 z hz).elim) (by omega) (by omega)
  have hP := P_kept hP hk
  obtain ⟨j, hj, rfl⟩ := inR_t (by omega) hw_1
  refine lv_iload_n hx hb dX0_place_5 rfl (lv_at hl 2 rfl) ?_
  refine vx_callv (vx_runS (As := [.int k0]) (rest := []) ⟨hx, hb, hml, hown, hts⟩ (c_X0_needKind l hst D k0 ) (va_cwS 1 hts gX0_place_X0_needKind rfl rfl rfl (by decide +kernel) ⟨Nat.le_trans (Nat.le_of_ble_eq_true rfl) hRf, Nat.le_trans (Nat.le_of_ble_eq_true rfl) hRl⟩) (pr_S (P_nil) hK [] rfl (hV0.at hS sub_id sub_id) EnvG_c) rfl rfl hl.1 rfl (lv_room (Nat.le_of_ble_eq_true rfl)) dX0_place_6 ⟨Nat.le_trans (Nat.le_of_ble_eq_true rfl) hRc, Nat.le_trans (Nat.le_of_ble_eq_true rfl) hRs⟩) hS (fun _ _ h => h.elim) (fun _ h => h.elim) (fun _ _ h => h.elim) (fun E ce q9 _ t H1 locs ht hvm hpx hbx _ hk hS hce hcv hcl => ?_) (fun _ t H1 locs ht hvm hw_2 hB hz hk hS => ?_)
  · rw [← hQ]
    exact vx_out (fun x hx9 => (htab x hx9).elim) hlocks hce hcv hcl (fun t ht hal => ⟨(), trivial, Or.inr ⟨hbx.1, by unfold spPlace; rw [inR_in hj (by omega), hbx.2]; rfl⟩, hS.F ht⟩) (fun z hz => (hS.2.2 z hz).elim) (by omega) (by omega)
  have hP := P_kept hP hk
  obtain ⟨k9, hk9, rfl⟩ := inR_t (by omega) hw_2
  refine lv_aload_n hx hb dX0_place_9 rfl (lv_at hl 0 rfl) ?_
  refine va_get (D := D) (ci := 0) (v := .ref (ad 3)) (C := RX0) (T := TX0) (N := 16) hx hb hts hiw hown hK hP 0 g_at0 rfl 3 (by decide) (hts (.fieldLink RX0 18 "GloveCutters" "skinCells" "[[I") (by decide +kernel)) (fun _ h9 => h9) rfl dX0_place_10 ?_
  refine lv_iload_n hx hb dX0_place_13 rfl (lv_at hl 1 rfl) ?_
  refine nv_aald hx hb hK hP 3 2 g_at3 rfl (by omega) (by decide) (if_pos (by omega)) dX0_place_14 ?_
  refine lv_iload_n hx hb dX0_place_15 rfl (lv_at hl 2 rfl) ?_
  refine lv_iload_n hx hb dX0_place_16 rfl (lv_at hl 3 rfl) ?_
  refine lv_iconst (v := nI 0) hx hb dX0_place_17 (by decide) ?_
  refine va_calli (va_runS (As := [.ref (ad (14 + j)), .int (nI k9), .int (bI tb), .int (nI 0)]) (rest := []) ⟨hx, hb, hml, hown, hts⟩ (c_X0_firstFit l D cI (ad (14 + j)) 96 (F (14 + j)) k9 tb 0 (by omega) (by omega) (by omega)) (va_cwS 4 hts gX0_place_X0_firstFit rfl rfl rfl (by decide +kernel) ⟨Nat.le_trans (Nat.le_of_ble_eq_true rfl) hRf, Nat.le_trans (Nat.le_of_ble_eq_true rfl) hRl⟩) (pr_S (P_pick hP (k := (14 + j)) (g_atr (k := j) (by omega))) hK [0] rfl (hV0.at hS sub_id sub_id) EnvG_c) rfl rfl hl.1 rfl (lv_room (Nat.le_of_ble_eq_true rfl)) dX0_place_18 ⟨Nat.le_trans (Nat.le_of_ble_eq_true rfl) hRc, Nat.le_trans (Nat.le_of_ble_eq_true rfl) hRs⟩) hS (fun _ _ h => h.elim) (fun _ h => h.elim) (fun r_3 _ t H1 locs ht hvm hw_3 hB hz hk hS => ?_)
  have hP := P_kept hP hk
  obtain rfl := hw_3
  rw [← hQ]
  refine vx_ret ?_
  exact W.iret (v := fI (fitA (F (14 + j)) k9 tb) 0 (96 - 0)) hx hb hr (fun t ht hW => ⟨⟨fI (fitA (F (14 + j)) k9 tb) 0 (96 - 0), (), rfl, (spPlace_y hn hj hk9), trivial⟩, hS.F ht⟩) hS.2.2 dX0_place_21
set_option maxHeartbeats 4000000 in
set_option maxRecDepth 100000 in
/-- piece -/
theorem c_X0_piece (l : Launch) (hst : l.stackTraces = false) (D : va_G) (cI cZ cO : ClassId) (ad : Nat → Nat) (n np nq : Nat) (F : Nat → Nat → Int32) (p0 w0 : Int32) (hnp : np ≤ 150) : vx_Met l yX0_piece wsX0_piece ({ frames := 7, cells := 2, slots := 12, locals := 103 } : Room) (va_Pc [.ref (ad 0), .int p0, .int w0] (Pr D (gT cI cZ cO) (wG cI cZ cO ad n np nq F) (EnvG (fun _ => False)))) (va_Qi (S := Unit) (fun (r : Int32) (_ : Unit) => spPiece np F p0 w0 = (0, r)) (fun _ _ => True) (fun _ => False)) (vx_X (S := Unit) (fun _ => True) (fun E (_ : Unit) (_ : State) => E = nX ∧ spPiece np F p0 w0 = (1, 0)) (fun _ => False)) 2 12 (fun _ => False) := by
  refine vx_ofW (cc := cX0_piece) (maxL := 3) (ret := (some .int)) (by decide) rfl ?_
  intro p e s m args below meth c s₁ B hml htab hv
  obtain ⟨hargs, hP, hK, hV⟩ := hv
  have hx := B.exec
  have hb := B.bytes
  have hr := B.returns
  have hts := atoms_spec (ws := wsX0_piece) B.pre
  have hown : s.vm.findClass RX0 = some m.cls := findClass_of_methodNamed B.named
  have hlocks := B.notSynchronized
  have hS : va_S (fun _ => False) s.heap s.heap [] := va_S.rf
  have hV0 : EnvG (fun _ => False) s := EnvG.nar hV sub_no
  have hiw : ∀ w ∈ wsX00, w ∈ wsX0_piece := (fun _ h => List.mem_cons_of_mem _ (List.mem_append_left _ (List.mem_append_right _ h)))
  have hRf : 7 ≤ (headSpec wsX0_piece ({ frames := 7, cells := 2, slots := 12, locals := 103 } : Room)).room.frames := Nat.le_refl _
  have hRl : 103 ≤ (headSpec wsX0_piece ({ frames := 7, cells := 2, slots := 12, locals := 103 } : Room)).room.locals := Nat.le_refl _
  have hRc : 2 ≤ (headSpec wsX0_piece ({ frames := 7, cells := 2, slots := 12, locals := 103 } : Room)).room.cells := Nat.le_refl _
  have hRs : 12 ≤ (headSpec wsX0_piece ({ frames := 7, cells := 2, slots := 12, locals := 103 } : Room)).room.slots := Nat.le_refl _
  generalize (headSpec wsX0_piece ({ frames := 7, cells := 2, slots := 12, locals := 103 } : Room)).room = R at hRf hRl hRc hRs ⊢
  have hl := lv_entry [.ref (ad 0), .int p0, .int w0] (n := 3) (Nat.le_of_ble_eq_true rfl)
  refine W.eq (show entryFrame m args 3 = _ from by rw [hargs, lg_entry_eq]) ?_
  generalize (lg_sl [.ref (ad 0), .int p0, .int w0] ++ List.replicate (3 - (lg_sl [.ref (ad 0), .int p0, .int w0]).length) Slot.unset).toArray = ls at hl ⊢
  have hl : lv_has ls 3 [(0, .ref (ad 0)), (1, .int p0), (2, .int w0)] := hl
  generalize hQ : vx_MQ _ _ _ _ _ _ _ _ = Q
  refine lv_iload_n hx hb dX0_piece_0 rfl (lv_at hl 1 rfl) ?_
  refine lv_if_lt (tgt := 12) hx hb dX0_piece_1 (by decide) (fun c_1 => ?_) (fun c_1 => ?_)
  · obtain ⟨sa9, hsa9⟩ := hV0.2.2.2.2.2.1.2.2.2.2.2.2.2.2.2.2.2.1
    rw [← hQ]
    exact vx_throwS (names := ["java/lang/RuntimeException", "java/lang/Exception"]) hx hb hst hown (by decide +kernel) (by decide +kernel) (hts (.classLink RX0 123 "java/lang/IndexOutOfBoundsException") (by decide +kernel)) (hts (.initialized "java/lang/IndexOutOfBoundsException") (by decide +kernel)) hsa9 (at_X (fun w h9 => hts w ((fun _ h => List.mem_cons_of_mem _ (List.mem_append_right _ h)) w h9)) hV0.2.2.2.2.2.2) gd_X hV0.2.2.2.2.1.1 hV0.2.2.2.2.1.2 hS (hl.1.trans hml.symm) dX0_piece_12 dX0_piece_15 dX0_piece_16 dX0_piece_18 dX0_piece_21 (fun x hx9 => (htab x hx9).elim) (Nat.lt_of_lt_of_le (Nat.le_of_ble_eq_true rfl) hRf) (Nat.le_trans (Nat.le_of_ble_eq_true rfl) hRl) (Nat.le_trans (Nat.le_of_ble_eq_true rfl) hRc) (Nat.le_trans (Nat.le_of_ble_eq_true rfl) hRs) hlocks (fun t9 _ hs9 hq9 => x_thr hS trivial ⟨rfl, by unfold spPiece; rw [inR_lo c_1]; rfl⟩ hs9 hq9) (fun z hz => (hS.2.2 z hz).elim) (by omega) (by omega)
  · refine lv_iload_n hx hb dX0_piece_4 rfl (lv_at hl 1 rfl) ?_
    refine lv_aload_n hx hb dX0_piece_5 rfl (lv_at hl 0 rfl) ?_
    refine va_get (D := D) (ci := 0) (v := .int (nI np)) (C := RX0) (T := TX0) (N := 16) hx hb hts hiw hown hK hP 0 g_at0 rfl 4 (by decide) (hts (.fieldLink RX0 107 "GloveCutters" "pieces" "I") (by decide +kernel)) (fun _ h9 => h9) rfl dX0_piece_6 ?_
    refine lv_icmp_lt (tgt := 22) hx hb dX0_piece_9 (by decide) (fun c_2 => ?_) (fun c_2 => ?_)
    · obtain ⟨j, hj, rfl⟩ := inR_t (by omega) (inR_y c_1 c_2)
      refine lv_iload_n hx hb dX0_piece_22 rfl (lv_at hl 2 rfl) ?_
      refine lv_iconst (v := nI 4) hx hb dX0_piece_23 (by decide) ?_
      refine vx_callv (vx_runS (As := [.int w0, .int (nI 4)]) (rest := []) ⟨hx, hb, hml, hown, hts⟩ (c_X0_needWhat l hst D w0 4 ) (va_cwS 2 hts gX0_piece_X0_needWhat rfl rfl rfl (by decide +kernel) ⟨Nat.le_trans (Nat.le_of_ble_eq_true rfl) hRf, Nat.le_trans (Nat.le_of_ble_eq_true rfl) hRl⟩) (pr_S (P_nil) hK [] rfl (hV0.at hS sub_id sub_id) EnvG_c) rfl rfl hl.1 rfl (lv_room (Nat.le_of_ble_eq_true rfl)) dX0_piece_24 ⟨Nat.le_trans (Nat.le_of_ble_eq_true rfl) hRc, Nat.le_trans (Nat.le_of_ble_eq_true rfl) hRs⟩) hS (fun _ _ h => h.elim) (fun _ h => h.elim) (fun _ _ h => h.elim) (fun E ce q9 _ t H1 locs ht hvm hpx hbx _ hk hS hce hcv hcl => ?_) (fun _ t H1 locs ht hvm hw_3 hB hz hk hS => ?_)
      · rw [← hQ]
        exact vx_out (fun x hx9 => (htab x hx9).elim) hlocks hce hcv hcl (fun t ht hal => ⟨(), trivial, ⟨hbx.1, by unfold spPiece; rw [inR_in hj (by omega), hbx.2]; rfl⟩, hS.F ht⟩) (fun z hz => (hS.2.2 z hz).elim) (by omega) (by omega)
      have hP := P_kept hP hk
      obtain ⟨w9, hw9, rfl⟩ := inR_t (by omega) hw_3
      refine lv_aload_n hx hb dX0_piece_27 rfl (lv_at hl 0 rfl) ?_
      refine lv_iload_n hx hb dX0_piece_28 rfl (lv_at hl 1 rfl) ?_
      refine lv_iload_n hx hb dX0_piece_29 rfl (lv_at hl 2 rfl) ?_
      refine va_calli (va_runV (As := [.int (nI j), .int (nI w9)]) (rest := []) ⟨hx, hb, hml, hown, hts⟩ (c_X0_tellPiece l D cI cZ cO ad n np nq F j w9 (by omega) hnp (by omega)) (cwV 2 hts gX0_piece_X0_tellPiece rfl rfl rfl (by decide +kernel) ⟨Nat.le_trans (Nat.le_of_ble_eq_true rfl) hRf, Nat.le_trans (Nat.le_of_ble_eq_true rfl) hRl⟩) (pr_V hP (ci := 0) (q0 := 0) rfl g_at0 rfl hP hK [0, 1, 2] rfl V0_at V0_c) rfl rfl hl.1 rfl (lv_room (Nat.le_of_ble_eq_true rfl)) dX0_piece_30 ⟨Nat.le_trans (Nat.le_of_ble_eq_true rfl) hRc, Nat.le_trans (Nat.le_of_ble_eq_true rfl) hRs⟩) hS (fun _ _ h => h.elim) (fun _ h => h.elim) (fun r_4 _ t H1 locs ht hvm hw_4 hB hz hk hS => ?_)
      have hP := P_kept hP hk
      obtain rfl := hw_4
      rw [← hQ]
      refine vx_ret ?_
      refine W.widen (k := 2) (n := 12) (by omega) (by omega) ?_
      exact W.iret (v := pcT F j w9) hx hb hr (fun t ht hW => ⟨⟨pcT F j w9, (), rfl, (spPiece_y hnp hj hw9), trivial⟩, hS.F ht⟩) hS.2.2 dX0_piece_33
    · obtain ⟨sa9, hsa9⟩ := hV0.2.2.2.2.2.1.2.2.2.2.2.2.2.2.2.2.2.1
      rw [← hQ]
      exact vx_throwS (names := ["java/lang/RuntimeException", "java/lang/Exception"]) hx hb hst hown (by decide +kernel) (by decide +kernel) (hts (.classLink RX0 123 "java/lang/IndexOutOfBoundsException") (by decide +kernel)) (hts (.initialized "java/lang/IndexOutOfBoundsException") (by decide +kernel)) hsa9 (at_X (fun w h9 => hts w ((fun _ h => List.mem_cons_of_mem _ (List.mem_append_right _ h)) w h9)) hV0.2.2.2.2.2.2) gd_X hV0.2.2.2.2.1.1 hV0.2.2.2.2.1.2 hS (hl.1.trans hml.symm) dX0_piece_12 dX0_piece_15 dX0_piece_16 dX0_piece_18 dX0_piece_21 (fun x hx9 => (htab x hx9).elim) (Nat.lt_of_lt_of_le (Nat.le_of_ble_eq_true rfl) hRf) (Nat.le_trans (Nat.le_of_ble_eq_true rfl) hRl) (Nat.le_trans (Nat.le_of_ble_eq_true rfl) hRc) (Nat.le_trans (Nat.le_of_ble_eq_true rfl) hRs) hlocks (fun t9 _ hs9 hq9 => x_thr hS trivial ⟨rfl, by unfold spPiece; rw [inR_hi c_2]; rfl⟩ hs9 hq9) (fun z hz => (hS.2.2 z hz).elim) (by omega) (by omega)
set_option maxHeartbeats 4000000 in
set_option maxRecDepth 100000 in
/-- pair -/
theorem c_X0_pair (l : Launch) (hst : l.stackTraces = false) (D : va_G) (cI cZ cO : ClassId) (ad : Nat → Nat) (n np nq : Nat) (F : Nat → Nat → Int32) (p0 w0 : Int32) (hnq : nq ≤ 20) (hrip : ∀ q, q < nq → F 12 q = 0 ∨ F 12 q = 1) : vx_Met l yX0_pair wsX0_pair ({ frames := 7, cells := 2, slots := 12, locals := 103 } : Room) (va_Pc [.ref (ad 0), .int p0, .int w0] (Pr D (gT cI cZ cO) (wG cI cZ cO ad n np nq F) (EnvG (fun _ => False)))) (va_Qi (S := Unit) (fun (r : Int32) (_ : Unit) => spPair nq F p0 w0 = (0, r)) (fun _ _ => True) (fun _ => False)) (vx_X (S := Unit) (fun _ => True) (fun E (_ : Unit) (_ : State) => E = nX ∧ spPair nq F p0 w0 = (1, 0)) (fun _ => False)) 2 12 (fun _ => False) := by
  refine vx_ofW (cc := cX0_pair) (maxL := 3) (ret := (some .int)) (by decide) rfl ?_
  intro p e s m args below meth c s₁ B hml htab hv
  obtain ⟨hargs, hP, hK, hV⟩ := hv
  have hx := B.exec
  have hb := B.bytes
  have hr := B.returns
  have hts := atoms_spec (ws := wsX0_pair) B.pre
  have hown : s.vm.findClass RX0 = some m.cls := findClass_of_methodNamed B.named
  have hlocks := B.notSynchronized
  have hS : va_S (fun _ => False) s.heap s.heap [] := va_S.rf
  have hV0 : EnvG (fun _ => False) s := EnvG.nar hV sub_no
  have hiw : ∀ w ∈ wsX00, w ∈ wsX0_pair := (fun _ h => List.mem_cons_of_mem _ (List.mem_append_left _ (List.mem_append_right _ h)))
  have hRf : 7 ≤ (headSpec wsX0_pair ({ frames := 7, cells := 2, slots := 12, locals := 103 } : Room)).room.frames := Nat.le_refl _
  have hRl : 103 ≤ (headSpec wsX0_pair ({ frames := 7, cells := 2, slots := 12, locals := 103 } : Room)).room.locals := Nat.le_refl _
  have hRc : 2 ≤ (headSpec wsX0_pair ({ frames := 7, cells := 2, slots := 12, locals := 103 } : Room)).room.cells := Nat.le_refl _
  have hRs : 12 ≤ (headSpec wsX0_pair ({ frames := 7, cells := 2, slots := 12, locals := 103 } : Room)).room.slots := Nat.le_refl _
  generalize (headSpec wsX0_pair ({ frames := 7, cells := 2, slots := 12, locals := 103 } : Room)).room = R at hRf hRl hRc hRs ⊢
  have hl := lv_entry [.ref (ad 0), .int p0, .int w0] (n := 3) (Nat.le_of_ble_eq_true rfl)
  refine W.eq (show entryFrame m args 3 = _ from by rw [hargs, lg_entry_eq]) ?_
  generalize (lg_sl [.ref (ad 0), .int p0, .int w0] ++ List.replicate (3 - (lg_sl [.ref (ad 0), .int p0, .int w0]).length) Slot.unset).toArray = ls at hl ⊢
  have hl : lv_has ls 3 [(0, .ref (ad 0)), (1, .int p0), (2, .int w0)] := hl
  generalize hQ : vx_MQ _ _ _ _ _ _ _ _ = Q
  refine lv_aload_n hx hb dX0_pair_0 rfl (lv_at hl 0 rfl) ?_
  refine lv_iload_n hx hb dX0_pair_1 rfl (lv_at hl 1 rfl) ?_
  refine vx_callv (vx_runV (As := [.int p0]) (rest := []) ⟨hx, hb, hml, hown, hts⟩ (c_X0_needPair l hst D cI cZ cO ad n np nq F p0 (by omega)) (cwV 1 hts gX0_pair_X0_needPair rfl rfl rfl (by decide +kernel) ⟨Nat.le_trans (Nat.le_of_ble_eq_true rfl) hRf, Nat.le_trans (Nat.le_of_ble_eq_true rfl) hRl⟩) (pr_V hP (ci := 0) (q0 := 0) rfl g_at0 rfl hP hK [0, 1, 2] rfl (hV0.at hS sub_id sub_id) EnvG_c) rfl rfl hl.1 rfl (lv_room (Nat.le_of_ble_eq_true rfl)) dX0_pair_2 ⟨Nat.le_trans (Nat.le_of_ble_eq_true rfl) hRc, Nat.le_trans (Nat.le_of_ble_eq_true rfl) hRs⟩) hS (fun _ _ h => h.elim) (fun _ h => h.elim) (fun _ _ h => h.elim) (fun E ce q9 _ t H1 locs ht hvm hpx hbx _ hk hS hce hcv hcl => ?_) (fun _ t H1 locs ht hvm hw_1 hB hz hk hS => ?_)
  · rw [← hQ]
    exact vx_out (fun x hx9 => (htab x hx9).elim) hlocks hce hcv hcl (fun t ht hal => ⟨(), trivial, ⟨hbx.1, by unfold spPair; rw [hbx.2]; rfl⟩, hS.F ht⟩) (fun z hz => (hS.2.2 z hz).elim) (by omega) (by omega)
  have hP := P_kept hP hk
  obtain ⟨j, hj, rfl⟩ := inR_t (by omega) hw_1
  refine lv_iload_n hx hb dX0_pair_5 rfl (lv_at hl 2 rfl) ?_
  refine lv_iconst (v := nI 5) hx hb dX0_pair_6 (by decide) ?_
  refine vx_callv (vx_runS (As := [.int w0, .int (nI 5)]) (rest := []) ⟨hx, hb, hml, hown, hts⟩ (c_X0_needWhat l hst D w0 5 ) (va_cwS 2 hts gX0_pair_X0_needWhat rfl rfl rfl (by decide +kernel) ⟨Nat.le_trans (Nat.le_of_ble_eq_true rfl) hRf, Nat.le_trans (Nat.le_of_ble_eq_true rfl) hRl⟩) (pr_S (P_nil) hK [] rfl (hV0.at hS sub_id sub_id) EnvG_c) rfl rfl hl.1 rfl (lv_room (Nat.le_of_ble_eq_true rfl)) dX0_pair_7 ⟨Nat.le_trans (Nat.le_of_ble_eq_true rfl) hRc, Nat.le_trans (Nat.le_of_ble_eq_true rfl) hRs⟩) hS (fun _ _ h => h.elim) (fun _ h => h.elim) (fun _ _ h => h.elim) (fun E ce q9 _ t H1 locs ht hvm hpx hbx _ hk hS hce hcv hcl => ?_) (fun _ t H1 locs ht hvm hw_2 hB hz hk hS => ?_)
  · rw [← hQ]
    exact vx_out (fun x hx9 => (htab x hx9).elim) hlocks hce hcv hcl (fun t ht hal => ⟨(), trivial, ⟨hbx.1, by unfold spPair; rw [inR_in hj (by omega), hbx.2]; rfl⟩, hS.F ht⟩) (fun z hz => (hS.2.2 z hz).elim) (by omega) (by omega)
  have hP := P_kept hP hk
  obtain ⟨w9, hw9, rfl⟩ := inR_t (by omega) hw_2
  refine lv_aload_n hx hb dX0_pair_10 rfl (lv_at hl 0 rfl) ?_
  refine lv_iload_n hx hb dX0_pair_11 rfl (lv_at hl 1 rfl) ?_
  refine lv_iload_n hx hb dX0_pair_12 rfl (lv_at hl 2 rfl) ?_
  refine va_calli (va_runV (As := [.int (nI j), .int (nI w9)]) (rest := []) ⟨hx, hb, hml, hown, hts⟩ (c_X0_tellPair l D cI cZ cO ad n np nq F j w9 (by omega) hnq (by omega) hrip) (cwV 2 hts gX0_pair_X0_tellPair rfl rfl rfl (by decide +kernel) ⟨Nat.le_trans (Nat.le_of_ble_eq_true rfl) hRf, Nat.le_trans (Nat.le_of_ble_eq_true rfl) hRl⟩) (pr_V hP (ci := 0) (q0 := 0) rfl g_at0 rfl hP hK [0, 1, 2] rfl V0_at V0_c) rfl rfl hl.1 rfl (lv_room (Nat.le_of_ble_eq_true rfl)) dX0_pair_13 ⟨Nat.le_trans (Nat.le_of_ble_eq_true rfl) hRc, Nat.le_trans (Nat.le_of_ble_eq_true rfl) hRs⟩) hS (fun _ _ h => h.elim) (fun _ h => h.elim) (fun r_3 _ t H1 locs ht hvm hw_3 hB hz hk hS => ?_)
  have hP := P_kept hP hk
  obtain rfl := hw_3
  rw [← hQ]
  refine vx_ret ?_
  exact W.iret (v := prT F j w9) hx hb hr (fun t ht hW => ⟨⟨prT F j w9, (), rfl, (spPair_y hnq hj hw9), trivial⟩, hS.F ht⟩) hS.2.2 dX0_pair_16
set_option maxHeartbeats 4000000 in
set_option maxRecDepth 100000 in
/-- count -/
theorem c_X0_count (l : Launch) (hst : l.stackTraces = false) (D : va_G) (cI cZ cO : ClassId) (ad : Nat → Nat) (n np nq : Nat) (F : Nat → Nat → Int32) (w0 : Int32) (hnp : np ≤ 150) (hnq : nq ≤ 20) : vx_Met l yX0_count wsX0_count ({ frames := 7, cells := 1, slots := 6, locals := 103 } : Room) (va_Pc [.ref (ad 0), .int w0] (Pr D (gT cI cZ cO) (wG cI cZ cO ad n np nq F) (EnvG (fun _ => False)))) (va_Qi (S := Unit) (fun (r : Int32) (_ : Unit) => spCount n np nq F w0 = (0, r)) (fun _ _ => True) (fun _ => False)) (vx_X (S := Unit) (fun _ => True) (fun E (_ : Unit) (_ : State) => E = nX ∧ spCount n np nq F w0 = (1, 0)) (fun _ => False)) 1 6 (fun _ => False) := by
  refine vx_ofW (cc := cX0_count) (maxL := 2) (ret := (some .int)) (by decide) rfl ?_
  intro p e s m args below meth c s₁ B hml htab hv
  obtain ⟨hargs, hP, hK, hV⟩ := hv
  have hx := B.exec
  have hb := B.bytes
  have hr := B.returns
  have hts := atoms_spec (ws := wsX0_count) B.pre
  have hown : s.vm.findClass RX0 = some m.cls := findClass_of_methodNamed B.named
  have hlocks := B.notSynchronized
  have hS : va_S (fun _ => False) s.heap s.heap [] := va_S.rf
  have hV0 : EnvG (fun _ => False) s := EnvG.nar hV sub_no
  have hiw : ∀ w ∈ wsX00, w ∈ wsX0_count := (fun _ h => List.mem_cons_of_mem _ (List.mem_append_left _ (List.mem_append_right _ h)))
  have hRf : 7 ≤ (headSpec wsX0_count ({ frames := 7, cells := 1, slots := 6, locals := 103 } : Room)).room.frames := Nat.le_refl _
  have hRl : 103 ≤ (headSpec wsX0_count ({ frames := 7, cells := 1, slots := 6, locals := 103 } : Room)).room.locals := Nat.le_refl _
  have hRc : 1 ≤ (headSpec wsX0_count ({ frames := 7, cells := 1, slots := 6, locals := 103 } : Room)).room.cells := Nat.le_refl _
  have hRs : 6 ≤ (headSpec wsX0_count ({ frames := 7, cells := 1, slots := 6, locals := 103 } : Room)).room.slots := Nat.le_refl _
  generalize (headSpec wsX0_count ({ frames := 7, cells := 1, slots := 6, locals := 103 } : Room)).room = R at hRf hRl hRc hRs ⊢
  have hl := lv_entry [.ref (ad 0), .int w0] (n := 2) (Nat.le_of_ble_eq_true rfl)
  refine W.eq (show entryFrame m args 2 = _ from by rw [hargs, lg_entry_eq]) ?_
  generalize (lg_sl [.ref (ad 0), .int w0] ++ List.replicate (2 - (lg_sl [.ref (ad 0), .int w0]).length) Slot.unset).toArray = ls at hl ⊢
  have hl : lv_has ls 2 [(0, .ref (ad 0)), (1, .int w0)] := hl
  generalize hQ : vx_MQ _ _ _ _ _ _ _ _ = Q
  refine lv_iload_n hx hb dX0_count_0 rfl (lv_at hl 1 rfl) ?_
  refine lv_bipush (v := nI 7) hx hb dX0_count_1 (by decide) ?_
  refine vx_callv (vx_runS (As := [.int w0, .int (nI 7)]) (rest := []) ⟨hx, hb, hml, hown, hts⟩ (c_X0_needWhat l hst D w0 7 ) (va_cwS 2 hts gX0_count_X0_needWhat rfl rfl rfl (by decide +kernel) ⟨Nat.le_trans (Nat.le_of_ble_eq_true rfl) hRf, Nat.le_trans (Nat.le_of_ble_eq_true rfl) hRl⟩) (pr_S (P_nil) hK [] rfl (hV0.at hS sub_id sub_id) EnvG_c) rfl rfl hl.1 rfl (lv_room (Nat.le_of_ble_eq_true rfl)) dX0_count_3 ⟨Nat.le_trans (Nat.le_of_ble_eq_true rfl) hRc, Nat.le_trans (Nat.le_of_ble_eq_true rfl) hRs⟩) hS (fun _ _ h => h.elim) (fun _ h => h.elim) (fun _ _ h => h.elim) (fun E ce q9 _ t H1 locs ht hvm hpx hbx _ hk hS hce hcv hcl => ?_) (fun _ t H1 locs ht hvm hw_1 hB hz hk hS => ?_)
  · rw [← hQ]
    exact vx_out (fun x hx9 => (htab x hx9).elim) hlocks hce hcv hcl (fun t ht hal => ⟨(), trivial, ⟨hbx.1, by unfold spCount; rw [hbx.2]; rfl⟩, hS.F ht⟩) (fun z hz => (hS.2.2 z hz).elim) (by omega) (by omega)
  have hP := P_kept hP hk
  obtain ⟨w9, hw9, rfl⟩ := inR_t (by omega) hw_1
  refine lv_aload_n hx hb dX0_count_6 rfl (lv_at hl 0 rfl) ?_
  refine lv_iload_n hx hb dX0_count_7 rfl (lv_at hl 1 rfl) ?_
  refine va_calli (va_runV (As := [.int (nI w9)]) (rest := []) ⟨hx, hb, hml, hown, hts⟩ (c_X0_tellCount l D cI cZ cO ad n np nq F w9 hnp hnq (by omega)) (cwV 1 hts gX0_count_X0_tellCount rfl rfl rfl (by decide +kernel) ⟨Nat.le_trans (Nat.le_of_ble_eq_true rfl) hRf, Nat.le_trans (Nat.le_of_ble_eq_true rfl) hRl⟩) (pr_V hP (ci := 0) (q0 := 0) rfl g_at0 rfl hP hK [0, 1, 2] rfl V0_at V0_c) rfl rfl hl.1 rfl (lv_room (Nat.le_of_ble_eq_true rfl)) dX0_count_8 ⟨Nat.le_trans (Nat.le_of_ble_eq_true rfl) hRc, Nat.le_trans (Nat.le_of_ble_eq_true rfl) hRs⟩) hS (fun _ _ h => h.elim) (fun _ h => h.elim) (fun r_2 _ t H1 locs ht hvm hw_2 hB hz hk hS => ?_)
  have hP := P_kept hP hk
  obtain rfl := hw_2
  rw [← hQ]
  refine vx_ret ?_
  exact W.iret (v := cnT n np nq F w9) hx hb hr (fun t ht hW => ⟨⟨cnT n np nq F w9, (), rfl, (spCount_y hw9), trivial⟩, hS.F ht⟩) hS.2.2 dX0_count_11
set_option maxHeartbeats 4000000 in
set_option maxRecDepth 100000 in
/-- lacks -/
theorem c_X0_lacks (l : Launch) (hst : l.stackTraces = false) (D : va_G) (cI cZ cO : ClassId) (ad : Nat → Nat) (n np nq : Nat) (F : Nat → Nat → Int32) (c0 k0 : Int32) (hn : n ≤ 10) (hnp : np ≤ 150) (hsk : ∀ p, p < np → ∃ k, k < n ∧ F 4 p = nI k) : vx_Met l yX0_lacks wsX0_lacks ({ frames := 7, cells := 2, slots := 12, locals := 102 } : Room) (va_Pc [.ref (ad 0), .int c0, .int k0] (Pr D (gT cI cZ cO) (wG cI cZ cO ad n np nq F) (EnvG (fun _ => False)))) (va_Qi (S := Unit) (fun (r : Int32) (_ : Unit) => spLacks n np F c0 k0 = (0, r)) (fun _ _ => True) (fun _ => False)) (vx_X (S := Unit) (fun _ => True) (fun E (_ : Unit) (_ : State) => E = nA ∧ spLacks n np F c0 k0 = (1, 0)) (fun _ => False)) 2 12 (fun _ => False) := by
  refine vx_ofW (cc := cX0_lacks) (maxL := 3) (ret := (some .int)) (by decide) rfl ?_
  intro p e s m args below meth c s₁ B hml htab hv
  obtain ⟨hargs, hP, hK, hV⟩ := hv
  have hx := B.exec
  have hb := B.bytes
  have hr := B.returns
  have hts := atoms_spec (ws := wsX0_lacks) B.pre
  have hown : s.vm.findClass RX0 = some m.cls := findClass_of_methodNamed B.named
  have hlocks := B.notSynchronized
  have hS : va_S (fun _ => False) s.heap s.heap [] := va_S.rf
  have hV0 : EnvG (fun _ => False) s := EnvG.nar hV sub_no
  have hiw : ∀ w ∈ wsX00, w ∈ wsX0_lacks := (fun _ h => List.mem_cons_of_mem _ (List.mem_append_left _ (List.mem_append_right _ h)))
  have hRf : 7 ≤ (headSpec wsX0_lacks ({ frames := 7, cells := 2, slots := 12, locals := 102 } : Room)).room.frames := Nat.le_refl _
  have hRl : 102 ≤ (headSpec wsX0_lacks ({ frames := 7, cells := 2, slots := 12, locals := 102 } : Room)).room.locals := Nat.le_refl _
  have hRc : 2 ≤ (headSpec wsX0_lacks ({ frames := 7, cells := 2, slots := 12, locals := 102 } : Room)).room.cells := Nat.le_refl _
  have hRs : 12 ≤ (headSpec wsX0_lacks ({ frames := 7, cells := 2, slots := 12, locals := 102 } : Room)).room.slots := Nat.le_refl _
  generalize (headSpec wsX0_lacks ({ frames := 7, cells := 2, slots := 12, locals := 102 } : Room)).room = R at hRf hRl hRc hRs ⊢
  have hl := lv_entry [.ref (ad 0), .int c0, .int k0] (n := 3) (Nat.le_of_ble_eq_true rfl)
  refine W.eq (show entryFrame m args 3 = _ from by rw [hargs, lg_entry_eq]) ?_
  generalize (lg_sl [.ref (ad 0), .int c0, .int k0] ++ List.replicate (3 - (lg_sl [.ref (ad 0), .int c0, .int k0]).length) Slot.unset).toArray = ls at hl ⊢
  have hl : lv_has ls 3 [(0, .ref (ad 0)), (1, .int c0), (2, .int k0)] := hl
  generalize hQ : vx_MQ _ _ _ _ _ _ _ _ = Q
  refine lv_iload_n hx hb dX0_lacks_0 rfl (lv_at hl 1 rfl) ?_
  refine vx_callv (vx_runS (As := [.int c0]) (rest := []) ⟨hx, hb, hml, hown, hts⟩ (c_X0_needColour l hst D c0 ) (va_cwS 1 hts gX0_lacks_X0_needColour rfl rfl rfl (by decide +kernel) ⟨Nat.le_trans (Nat.le_of_ble_eq_true rfl) hRf, Nat.le_trans (Nat.le_of_ble_eq_true rfl) hRl⟩) (pr_S (P_nil) hK [] rfl (hV0.at hS sub_id sub_id) EnvG_c) rfl rfl hl.1 rfl (lv_room (Nat.le_of_ble_eq_true rfl)) dX0_lacks_1 ⟨Nat.le_trans (Nat.le_of_ble_eq_true rfl) hRc, Nat.le_trans (Nat.le_of_ble_eq_true rfl) hRs⟩) hS (fun _ _ h => h.elim) (fun _ h => h.elim) (fun _ _ h => h.elim) (fun E ce q9 _ t H1 locs ht hvm hpx hbx _ hk hS hce hcv hcl => ?_) (fun _ t H1 locs ht hvm hw_1 hB hz hk hS => ?_)
  · rw [← hQ]
    exact vx_out (fun x hx9 => (htab x hx9).elim) hlocks hce hcv hcl (fun t ht hal => ⟨(), trivial, ⟨hbx.1, by unfold spLacks; rw [hbx.2]; rfl⟩, hS.F ht⟩) (fun z hz => (hS.2.2 z hz).elim) (by omega) (by omega)
  have hP := P_kept hP hk
  have hc9 := hw_1
  refine lv_iload_n hx hb dX0_lacks_4 rfl (lv_at hl 2 rfl) ?_
  refine vx_callv (vx_runS (As := [.int k0]) (rest := []) ⟨hx, hb, hml, hown, hts⟩ (c_X0_needKind l hst D k0 ) (va_cwS 1 hts gX0_lacks_X0_needKind rfl rfl rfl (by decide +kernel) ⟨Nat.le_trans (Nat.le_of_ble_eq_true rfl) hRf, Nat.le_trans (Nat.le_of_ble_eq_true rfl) hRl⟩) (pr_S (P_nil) hK [] rfl (hV0.at hS sub_id sub_id) EnvG_c) rfl rfl hl.1 rfl (lv_room (Nat.le_of_ble_eq_true rfl)) dX0_lacks_5 ⟨Nat.le_trans (Nat.le_of_ble_eq_true rfl) hRc, Nat.le_trans (Nat.le_of_ble_eq_true rfl) hRs⟩) hS (fun _ _ h => h.elim) (fun _ h => h.elim) (fun _ _ h => h.elim) (fun E ce q9 _ t H1 locs ht hvm hpx hbx _ hk hS hce hcv hcl => ?_) (fun _ t H1 locs ht hvm hw_2 hB hz hk hS => ?_)
  · rw [← hQ]
    exact vx_out (fun x hx9 => (htab x hx9).elim) hlocks hce hcv hcl (fun t ht hal => ⟨(), trivial, ⟨hbx.1, by unfold spLacks; rw [hc9, hbx.2]; rfl⟩, hS.F ht⟩) (fun z hz => (hS.2.2 z hz).elim) (by omega) (by omega)
  have hP := P_kept hP hk
  obtain ⟨k9, hk9, rfl⟩ := inR_t (by omega) hw_2
  refine lv_aload_n hx hb dX0_lacks_8 rfl (lv_at hl 0 rfl) ?_
  refine lv_iload_n hx hb dX0_lacks_9 rfl (lv_at hl 1 rfl) ?_
  refine lv_iload_n hx hb dX0_lacks_10 rfl (lv_at hl 2 rfl) ?_
  refine va_calli (va_runV (As := [.int c0, .int (nI k9)]) (rest := []) ⟨hx, hb, hml, hown, hts⟩ (c_X0_lacking l D cI cZ cO ad n np nq F c0 k9 hn hnp hsk (by omega)) (cwV 2 hts gX0_lacks_X0_lacking rfl rfl rfl (by decide +kernel) ⟨Nat.le_trans (Nat.le_of_ble_eq_true rfl) hRf, Nat.le_trans (Nat.le_of_ble_eq_true rfl) hRl⟩) (pr_V hP (ci := 0) (q0 := 0) rfl g_at0 rfl hP hK [0, 1, 2] rfl (hV0.at hS sub_id sub_id) EnvG_c) rfl rfl hl.1 rfl (lv_room (Nat.le_of_ble_eq_true rfl)) dX0_lacks_11 ⟨Nat.le_trans (Nat.le_of_ble_eq_true rfl) hRc, Nat.le_trans (Nat.le_of_ble_eq_true rfl) hRs⟩) hS (fun _ _ h => h.elim) (fun _ h => h.elim) (fun r_3 _ t H1 locs ht hvm hw_3 hB hz hk hS => ?_)
  have hP := P_kept hP hk
  obtain rfl := hw_3
  rw [← hQ]
  refine vx_ret ?_
  exact W.iret (v := nI (lkN F n np c0 k9)) hx hb hr (fun t ht hW => ⟨⟨nI (lkN F n np c0 k9), (), rfl, (spLacks_y hc9 hk9), trivial⟩, hS.F ht⟩) hS.2.2 dX0_lacks_14
set_option maxHeartbeats 4000000 in
set_option maxRecDepth 100000 in
/-- pairs -/
theorem c_X0_pairs (l : Launch) (hst : l.stackTraces = false) (D : va_G) (cI cZ cO : ClassId) (ad : Nat → Nat) (n np nq : Nat) (F : Nat → Nat → Int32) (c0 : Int32) (hn : n ≤ 10) (hnp : np ≤ 150) (hsk : ∀ p, p < np → ∃ k, k < n ∧ F 4 p = nI k) : vx_Met l yX0_pairs wsX0_pairs ({ frames := 7, cells := 1, slots := 6, locals := 102 } : Room) (va_Pc [.ref (ad 0), .int c0] (Pr D (gT cI cZ cO) (wG cI cZ cO ad n np nq F) (EnvG (fun _ => False)))) (va_Qi (S := Unit) (fun (r : Int32) (_ : Unit) => spPairs n np F c0 = (0, r)) (fun _ _ => True) (fun _ => False)) (vx_X (S := Unit) (fun _ => True) (fun E (_ : Unit) (_ : State) => E = nA ∧ spPairs n np F c0 = (1, 0)) (fun _ => False)) 1 6 (fun _ => False) := by
  refine vx_ofW (cc := cX0_pairs) (maxL := 4) (ret := (some .int)) (by decide) rfl ?_
  intro p e s m args below meth c s₁ B hml htab hv
  obtain ⟨hargs, hP, hK, hV⟩ := hv
  have hx := B.exec
  have hb := B.bytes
  have hr := B.returns
  have hts := atoms_spec (ws := wsX0_pairs) B.pre
  have hown : s.vm.findClass RX0 = some m.cls := findClass_of_methodNamed B.named
  have hlocks := B.notSynchronized
  have hS : va_S (fun _ => False) s.heap s.heap [] := va_S.rf
  have hV0 : EnvG (fun _ => False) s := EnvG.nar hV sub_no
  have hiw : ∀ w ∈ wsX00, w ∈ wsX0_pairs := (fun _ h => List.mem_cons_of_mem _ (List.mem_append_left _ (List.mem_append_right _ h)))
  have hRf : 7 ≤ (headSpec wsX0_pairs ({ frames := 7, cells := 1, slots := 6, locals := 102 } : Room)).room.frames := Nat.le_refl _
  have hRl : 102 ≤ (headSpec wsX0_pairs ({ frames := 7, cells := 1, slots := 6, locals := 102 } : Room)).room.locals := Nat.le_refl _
  have hRc : 1 ≤ (headSpec wsX0_pairs ({ frames := 7, cells := 1, slots := 6, locals := 102 } : Room)).room.cells := Nat.le_refl _
  have hRs : 6 ≤ (headSpec wsX0_pairs ({ frames := 7, cells := 1, slots := 6, locals := 102 } : Room)).room.slots := Nat.le_refl _
  generalize (headSpec wsX0_pairs ({ frames := 7, cells := 1, slots := 6, locals := 102 } : Room)).room = R at hRf hRl hRc hRs ⊢
  have hl := lv_entry [.ref (ad 0), .int c0] (n := 4) (Nat.le_of_ble_eq_true rfl)
  refine W.eq (show entryFrame m args 4 = _ from by rw [hargs, lg_entry_eq]) ?_
  generalize (lg_sl [.ref (ad 0), .int c0] ++ List.replicate (4 - (lg_sl [.ref (ad 0), .int c0]).length) Slot.unset).toArray = ls at hl ⊢
  have hl : lv_has ls 4 [(0, .ref (ad 0)), (1, .int c0)] := hl
  generalize hQ : vx_MQ _ _ _ _ _ _ _ _ = Q
  refine lv_iload_n hx hb dX0_pairs_0 rfl (lv_at hl 1 rfl) ?_
  refine vx_callv (vx_runS (As := [.int c0]) (rest := []) ⟨hx, hb, hml, hown, hts⟩ (c_X0_needColour l hst D c0 ) (va_cwS 1 hts gX0_pairs_X0_needColour rfl rfl rfl (by decide +kernel) ⟨Nat.le_trans (Nat.le_of_ble_eq_true rfl) hRf, Nat.le_trans (Nat.le_of_ble_eq_true rfl) hRl⟩) (pr_S (P_nil) hK [] rfl (hV0.at hS sub_id sub_id) EnvG_c) rfl rfl hl.1 rfl (lv_room (Nat.le_of_ble_eq_true rfl)) dX0_pairs_1 ⟨Nat.le_trans (Nat.le_of_ble_eq_true rfl) hRc, Nat.le_trans (Nat.le_of_ble_eq_true rfl) hRs⟩) hS (fun _ _ h => h.elim) (fun _ h => h.elim) (fun _ _ h => h.elim) (fun E ce q9 _ t H1 locs ht hvm hpx hbx _ hk hS hce hcv hcl => ?_) (fun _ t H1 locs ht hvm hw_1 hB hz hk hS => ?_)
  · rw [← hQ]
    exact vx_out (fun x hx9 => (htab x hx9).elim) hlocks hce hcv hcl (fun t ht hal => ⟨(), trivial, ⟨hbx.1, by unfold spPairs; rw [hbx.2]; rfl⟩, hS.F ht⟩) (fun z hz => (hS.2.2 z hz).elim) (by omega) (by omega)
  have hP := P_kept hP hk
  have hc9 := hw_1
  refine lv_aload_n hx hb dX0_pairs_4 rfl (lv_at hl 0 rfl) ?_
  refine lv_iload_n hx hb dX0_pairs_5 rfl (lv_at hl 1 rfl) ?_
  refine va_calli (va_runV (As := [.int c0]) (rest := []) ⟨hx, hb, hml, hown, hts⟩ (c_X0_trankPairs l D cI cZ cO ad n np nq F c0 hn hnp) (cwV 1 hts gX0_pairs_X0_trankPairs rfl rfl rfl (by decide +kernel) ⟨Nat.le_trans (Nat.le_of_ble_eq_true rfl) hRf, Nat.le_trans (Nat.le_of_ble_eq_true rfl) hRl⟩) (pr_V hP (ci := 0) (q0 := 0) rfl g_at0 rfl hP hK [0, 1, 2] rfl (hV0.at hS sub_id sub_id) EnvG_c) rfl rfl hl.1 rfl (lv_room (Nat.le_of_ble_eq_true rfl)) dX0_pairs_6 ⟨Nat.le_trans (Nat.le_of_ble_eq_true rfl) hRc, Nat.le_trans (Nat.le_of_ble_eq_true rfl) hRs⟩) hS (fun _ _ h => h.elim) (fun _ h => h.elim) (fun r_2 _ t H1 locs ht hvm hw_2 hB hz hk hS => ?_)
  have hP := P_kept hP hk
  obtain rfl := hw_2
  have hm9 := Nat.le_trans (tP_le F np c0 n) (Nat.mul_le_mul hnp hn)
  refine lv_istore_n (lv' := [(2, .int (nI (tP F np c0 n))), (0, .ref (ad 0)), (1, .int c0)]) hx hb dX0_pairs_9 rfl hl (by decide) rfl (fun ls hl => ?_)
  refine lv_iconst (v := nI 1) hx hb dX0_pairs_10 (by decide) ?_
  refine lv_istore_n (lv' := [(3, .int (nI 1)), (2, .int (nI (tP F np c0 n))), (0, .ref (ad 0)), (1, .int c0)]) hx hb dX0_pairs_11 rfl hl (by decide) rfl (fun ls hl => ?_)
  have L12 : ∀ (fu : Nat) (k : Nat) (i : Nat) (j : Nat) (H : Heap) (locs : List Loc) (ls : Array Slot), 4 - i < fu → (i = j + 1) → (i ≤ 4) → (k = prN F n np c0 j) → (k ≤ 1500) → va_P D vwCl (wG cI cZ cO ad n np nq F) H → va_S (fun _ => False) s.heap H locs → lv_has ls 4 [(0, .ref (ad 0)), (1, .int c0), (2, .int (nI k)), (3, .int (nI i))] → W p l e R s m args below meth c H locs 1 6 Q (F0 m 12 ls []) := by
    intro fu
    induction fu with
    | zero => intro _ _ _ _ _ _ h; exact absurd h (Nat.not_lt_zero _)
    | succ fu ih12 =>
      intro k i j H locs ls hm12 h0 h1 h2 h3 hP  hS hl
      refine lv_iload_n hx hb dX0_pairs_12 rfl (lv_at hl 3 rfl) ?_
      refine lv_iconst (v := nI 4) hx hb dX0_pairs_13 (by decide) ?_
      refine nv_icmp_ge (tgt := 38) hx hb (by omega) (by omega) dX0_pairs_14 (by decide) (fun c_3 => ?_) (fun c_3 => ?_)
      · refine lv_iload_n hx hb dX0_pairs_38 rfl (lv_at hl 2 rfl) ?_
        rw [← hQ]
        refine vx_ret ?_
        exact W.iret (v := nI k) hx hb hr (fun t ht hW => ⟨⟨nI k, (), rfl, ((spPairs_y hc9).trans (by rw [h2, show j = 3 by omega])), trivial⟩, hS.F ht⟩) hS.2.2 dX0_pairs_39
      · refine lv_iload_n hx hb dX0_pairs_17 rfl (lv_at hl 2 rfl) ?_
        refine lv_aload_n hx hb dX0_pairs_18 rfl (lv_at hl 0 rfl) ?_
        refine lv_iload_n hx hb dX0_pairs_19 rfl (lv_at hl 1 rfl) ?_
        refine lv_iload_n hx hb dX0_pairs_20 rfl (lv_at hl 3 rfl) ?_
        refine va_calli (va_runV (As := [.int c0, .int (nI i)]) (rest := [.int (nI k)]) ⟨hx, hb, hml, hown, hts⟩ (c_X0_freeOfColour l D cI cZ cO ad n np nq F c0 (nI i) hn hnp hsk) (cwV 2 hts gX0_pairs_X0_freeOfColour rfl rfl rfl (by decide +kernel) ⟨Nat.le_trans (Nat.le_of_ble_eq_true rfl) hRf, Nat.le_trans (Nat.le_of_ble_eq_true rfl) hRl⟩) (pr_V hP (ci := 0) (q0 := 0) rfl g_at0 rfl hP hK [0, 1, 2] rfl V0_at V0_c) rfl rfl hl.1 rfl (lv_room (Nat.le_of_ble_eq_true rfl)) dX0_pairs_21 ⟨Nat.le_trans (Nat.le_of_ble_eq_true rfl) hRc, Nat.le_trans (Nat.le_of_ble_eq_true rfl) hRs⟩) hS (fun _ _ h => h.elim) (fun _ h => h.elim) (fun r_4 _ t H1 locs ht hvm hw_4 hB hz hk hS => ?_)
        have hP := P_kept hP hk
        obtain rfl := hw_4
        have hb9 := fC_le F np c0 (nI i)
        refine lv_iload_n hx hb dX0_pairs_24 rfl (lv_at hl 3 rfl) ?_
        refine va_calli (va_runS (As := [.int (nI (fC F np c0 (nI i))), .int (nI i)]) (rest := [.int (nI k)]) ⟨hx, hb, hml, hown, hts⟩ (c_X0_pairsFrom l D (fC F np c0 (nI i)) i (by omega) (by omega)) (va_cwS 2 hts gX0_pairs_X0_pairsFrom rfl rfl rfl (by decide +kernel) ⟨Nat.le_trans (Nat.le_of_ble_eq_true rfl) hRf, Nat.le_trans (Nat.le_of_ble_eq_true rfl) hRl⟩) (pr_S (P_nil) hK [] rfl (hV0.at hS sub_id sub_id) EnvG_c) rfl rfl hl.1 rfl (lv_room (Nat.le_of_ble_eq_true rfl)) dX0_pairs_25 ⟨Nat.le_trans (Nat.le_of_ble_eq_true rfl) hRc, Nat.le_trans (Nat.le_of_ble_eq_true rfl) hRs⟩) hS (fun _ _ h => h.elim) (fun _ h => h.elim) (fun r_5 _ t H1 locs ht hvm hw_5 hB hz hk hS => ?_)
        have hP := P_kept hP hk
        obtain rfl := hw_5
        have hb8 := Nat.div_le_self (fC F np c0 (nI i)) (kP i)
        refine va_mmin (rest := []) hx hb (hml.trans hl.1.symm) hown (hts (.methodLink RX0 169 Lib.Math.min.name) (by decide +kernel)) (hts (.static Lib.Math.min.name) (by decide +kernel)) (hts (.initialized "java/lang/Math") (by decide +kernel)) (hts (.code Lib.Math.min.name Lib.Math.min.code 2 (some .int)) (by decide +kernel)) (Nat.le_trans (Nat.le_of_ble_eq_true rfl) hRf) (Nat.le_trans (Nat.le_of_ble_eq_true rfl) hRl) (Nat.le_trans (Nat.le_of_ble_eq_true rfl) hRc) (Nat.le_trans (Nat.le_of_ble_eq_true rfl) hRs) dX0_pairs_28 ?_
        rw [nI_min (by omega) (by omega)]
        refine lv_istore_n (lv' := [(2, .int (nI (min ((fC F np c0 (nI i)) / kP i) k))), (0, .ref (ad 0)), (1, .int c0), (3, .int (nI i))]) hx hb dX0_pairs_31 rfl hl (by decide) rfl (fun ls hl => ?_)
        refine lv_iinc (k := 3) (v := nI (i + 1)) (lv' := [(3, .int (nI (i + 1))), (2, .int (nI (min ((fC F np c0 (nI i)) / kP i) k))), (0, .ref (ad 0)), (1, .int c0)]) hx hb dX0_pairs_32 hl rfl (nI_add i 1) (by decide) rfl (fun ls hl => ?_)
        refine lv_goto (tgt := 12) hx hb dX0_pairs_35 (by decide) ?_
        exact ih12 (min ((fC F np c0 (nI i)) / kP i) k) (i + 1) (j + 1) _ _ _ (by omega) (by omega) (by omega) (by subst h0; rw [h2, Nat.min_comm]; rfl) (Nat.le_trans (Nat.min_le_right _ _) h3) hP hS (lv_sub hl [2, 3, 1, 0] rfl)
  exact L12 _ (tP F np c0 n) 1 0 _ _ _ (Nat.lt_succ_self _) rfl (by omega) rfl (by omega) hP hS (lv_sub hl [2, 3, 1, 0] rfl)
set_option maxHeartbeats 4000000 in
set_option maxRecDepth 100000 in
/-- digestSkin -/
theorem c_X0_digestSkin (l : Launch) (D : va_G) (cI cZ cO : ClassId) (ad : Nat → Nat) (n np nq : Nat) (F : Nat → Nat → Int32) (d0 : Int64) (s0 : Nat) (hs : s0 < 10) : Met l yX0_digestSkin wsX0_digestSkin ({ frames := 3, cells := 0, slots := 0, locals := 72 } : Room) (va_Pc [.ref (ad 0), .long d0, .int (nI s0)] (Pr D (gT cI cZ cO) (wG cI cZ cO ad n np nq F) V0)) (va_Ql (S := Unit) (fun (r : Int64) (_ : Unit) => r = dS (F (14 + s0)) (dS (skT F s0) d0 6) 96) (fun _ _ => True) (fun _ => False)) 0 0 (fun _ => False) := by
  refine Met.ofW (cc := cX0_digestSkin) (maxL := 7) (ret := (some .long)) (by decide) rfl ?_
  intro p e s m args below meth c s₁ B hml hv
  obtain ⟨hargs, hP, hK, hV⟩ := hv
  have hx := B.exec
  have hb := B.bytes
  have hr := B.returns
  have hts := atoms_spec (ws := wsX0_digestSkin) B.pre
  have hown : s.vm.findClass RX0 = some m.cls := findClass_of_methodNamed B.named
  have hlocks := B.notSynchronized
  have hS : va_S (fun _ => False) s.heap s.heap [] := va_S.rf
  have hiw : ∀ w ∈ wsX00, w ∈ wsX0_digestSkin := (fun _ h => List.mem_cons_of_mem _ (List.mem_append_right _ h))
  have hRf : 3 ≤ (headSpec wsX0_digestSkin ({ frames := 3, cells := 0, slots := 0, locals := 72 } : Room)).room.frames := Nat.le_refl _
  have hRl : 72 ≤ (headSpec wsX0_digestSkin ({ frames := 3, cells := 0, slots := 0, locals := 72 } : Room)).room.locals := Nat.le_refl _
  have hRc : 0 ≤ (headSpec wsX0_digestSkin ({ frames := 3, cells := 0, slots := 0, locals := 72 } : Room)).room.cells := Nat.le_refl _
  have hRs : 0 ≤ (headSpec wsX0_digestSkin ({ frames := 3, cells := 0, slots := 0, locals := 72 } : Room)).room.slots := Nat.le_refl _
  generalize (headSpec wsX0_digestSkin ({ frames := 3, cells := 0, slots := 0, locals := 72 } : Room)).room = R at hRf hRl hRc hRs ⊢
  have hl := lv_entry [.ref (ad 0), .long d0, .int (nI s0)] (n := 7) (Nat.le_of_ble_eq_true rfl)
  refine W.eq (show entryFrame m args 7 = _ from by rw [hargs, lg_entry_eq]) ?_
  generalize (lg_sl [.ref (ad 0), .long d0, .int (nI s0)] ++ List.replicate (7 - (lg_sl [.ref (ad 0), .long d0, .int (nI s0)]).length) Slot.unset).toArray = ls at hl ⊢
  have hl : lv_has ls 7 [(0, .ref (ad 0)), (1, .long d0), (3, .int (nI s0))] := hl
  generalize hQ : MQ _ _ _ _ _ _ _ = Q
  refine lv_lload_n hx hb dX0_digestSkin_0 rfl (lv_at hl 1 rfl) ?_
  refine lv_lstore (lv' := [(4, .long d0), (0, .ref (ad 0)), (1, .long d0), (3, .int (nI s0))]) hx hb dX0_digestSkin_1 hl (by decide) rfl (fun ls hl => ?_)
  refine lv_iconst (v := nI 0) hx hb dX0_digestSkin_3 (by decide) ?_
  refine lv_istore (lv' := [(6, .int (nI 0)), (4, .long d0), (0, .ref (ad 0)), (1, .long d0), (3, .int (nI s0))]) hx hb dX0_digestSkin_4 hl (by decide) rfl (fun ls hl => ?_)
  have L6 : ∀ (fu : Nat) (da : Int64) (a9 : Nat) (H : Heap) (locs : List Loc) (ls : Array Slot), 6 - a9 < fu → (a9 ≤ 6) → (da = dS (skT F s0) d0 a9) → va_P D vwCl (wG cI cZ cO ad n np nq F) H → va_S (fun _ => False) s.heap H locs → lv_has ls 7 [(0, .ref (ad 0)), (1, .long d0), (3, .int (nI s0)), (4, .long da), (6, .int (nI a9))] → W p l e R s m args below meth c H locs 0 0 Q (F0 m 6 ls []) := by
    intro fu
    induction fu with
    | zero => intro _ _ _ _ _ h; exact absurd h (Nat.not_lt_zero _)
    | succ fu ih6 =>
      intro da a9 H locs ls hm6 ga ea hP  hS hl
      refine lv_iload hx hb dX0_digestSkin_6 (lv_at hl 4 rfl) ?_
      refine lv_bipush (v := nI 6) hx hb dX0_digestSkin_8 (by decide) ?_
      refine nv_icmp_ge (tgt := 36) hx hb (by omega) (by omega) dX0_digestSkin_10 (by decide) (fun c_1 => ?_) (fun c_1 => ?_)
      · refine lv_iconst (v := nI 0) hx hb dX0_digestSkin_36 (by decide) ?_
        refine lv_istore (lv' := [(6, .int (nI 0)), (0, .ref (ad 0)), (1, .long d0), (3, .int (nI s0)), (4, .long da)]) hx hb dX0_digestSkin_37 hl (by decide) rfl (fun ls hl => ?_)
        have L39 : ∀ (fu : Nat) (db : Int64) (b9 : Nat) (H : Heap) (locs : List Loc) (ls : Array Slot), 96 - b9 < fu → (b9 ≤ 96) → (db = dS (F (14 + s0)) (dS (skT F s0) d0 6) b9) → va_P D vwCl (wG cI cZ cO ad n np nq F) H → va_S (fun _ => False) s.heap H locs → lv_has ls 7 [(0, .ref (ad 0)), (1, .long d0), (3, .int (nI s0)), (4, .long db), (6, .int (nI b9))] → W p l e R s m args below meth c H locs 0 0 Q (F0 m 39 ls []) := by
          intro fu
          induction fu with
          | zero => intro _ _ _ _ _ h; exact absurd h (Nat.not_lt_zero _)
          | succ fu ih39 =>
            intro db b9 H locs ls hm39 gb eb hP  hS hl
            refine lv_iload hx hb dX0_digestSkin_39 (lv_at hl 4 rfl) ?_
            refine lv_bipush (v := nI 96) hx hb dX0_digestSkin_41 (by decide) ?_
            refine nv_icmp_ge (tgt := 71) hx hb (by omega) (by omega) dX0_digestSkin_43 (by decide) (fun c_2 => ?_) (fun c_2 => ?_)
            · refine lv_lload hx hb dX0_digestSkin_71 (lv_at hl 3 rfl) ?_
              rw [← hQ]
              exact W.lret (v := db) hx hb hr (fun t ht hW => ⟨⟨db, (), rfl, (by rw [eb, show b9 = 96 by omega]), trivial⟩, hS.F ht⟩) hS.2.2 dX0_digestSkin_73
            · refine lv_lload hx hb dX0_digestSkin_46 (lv_at hl 3 rfl) ?_
              refine lv_ldc2 (v := 31) hx hb hown (hts (.constantLong RX0 179 (31)) (by decide +kernel)) dX0_digestSkin_48 ?_
              refine lv_lmul hx hb dX0_digestSkin_51 ?_
              refine lv_aload_n hx hb dX0_digestSkin_52 rfl (lv_at hl 0 rfl) ?_
              refine va_get (D := D) (ci := 0) (v := .ref (ad 3)) (C := RX0) (T := TX0) (N := 16) hx hb hts hiw hown hK hP 0 g_at0 rfl 3 (by decide) (hts (.fieldLink RX0 18 "GloveCutters" "skinCells" "[[I") (by decide +kernel)) (fun _ h9 => h9) rfl dX0_digestSkin_53 ?_
              refine lv_iload_n hx hb dX0_digestSkin_56 rfl (lv_at hl 2 rfl) ?_
              refine nv_aald hx hb hK hP 3 2 g_at3 rfl (by omega) (by decide) (if_pos (by omega)) dX0_digestSkin_57 ?_
              refine lv_iload hx hb dX0_digestSkin_58 (lv_at hl 4 rfl) ?_
              refine nv_iald hx hb hK hP (14 + s0) 0 (g_atr (k := s0) (by omega)) rfl (by omega) (by omega) dX0_digestSkin_60 ?_
              refine lv_i2l hx hb dX0_digestSkin_61 rfl ?_
              refine lv_ladd hx hb dX0_digestSkin_62 ?_
              refine lv_lstore (lv' := [(4, .long ((db * 31) + ((F (14 + s0) b9).toInt64))), (0, .ref (ad 0)), (1, .long d0), (3, .int (nI s0)), (6, .int (nI b9))]) hx hb dX0_digestSkin_63 hl (by decide) rfl (fun ls hl => ?_)
              refine lv_iinc (k := 4) (v := nI (b9 + 1)) (lv' := [(6, .int (nI (b9 + 1))), (4, .long ((db * 31) + ((F (14 + s0) b9).toInt64))), (0, .ref (ad 0)), (1, .long d0), (3, .int (nI s0))]) hx hb dX0_digestSkin_65 hl rfl (nI_add b9 1) (by decide) rfl (fun ls hl => ?_)
              refine lv_goto (tgt := 39) hx hb dX0_digestSkin_68 (by decide) ?_
              exact ih39 ((db * 31) + ((F (14 + s0) b9).toInt64)) (b9 + 1) _ _ _ (by omega) (by omega) (by rw [eb]; rfl) hP hS (lv_sub hl [2, 3, 4, 1, 0] rfl)
        exact L39 _ da 0 _ _ _ (Nat.lt_succ_self _) (by omega) (by rw [ea, show a9 = 6 by omega]; rfl) hP hS (lv_sub hl [1, 2, 3, 4, 0] rfl)
      · refine lv_lload hx hb dX0_digestSkin_13 (lv_at hl 3 rfl) ?_
        refine lv_ldc2 (v := 31) hx hb hown (hts (.constantLong RX0 179 (31)) (by decide +kernel)) dX0_digestSkin_15 ?_
        refine lv_lmul hx hb dX0_digestSkin_18 ?_
        refine lv_aload_n hx hb dX0_digestSkin_19 rfl (lv_at hl 0 rfl) ?_
        refine lv_iload_n hx hb dX0_digestSkin_20 rfl (lv_at hl 2 rfl) ?_
        refine lv_iload hx hb dX0_digestSkin_21 (lv_at hl 4 rfl) ?_
        refine va_calli (va_runV (As := [.int (nI s0), .int (nI a9)]) (rest := [.long (da * 31)]) ⟨hx, hb, hml, hown, hts⟩ (c_X0_tellSkin l D cI cZ cO ad n np nq F s0 a9 hs (by omega)) (cwV 2 hts gX0_digestSkin_X0_tellSkin rfl rfl rfl (by decide +kernel) ⟨Nat.le_trans (Nat.le_of_ble_eq_true rfl) hRf, Nat.le_trans (Nat.le_of_ble_eq_true rfl) hRl⟩) (pr_V hP (ci := 0) (q0 := 0) rfl g_at0 rfl hP hK [0, 1, 2] rfl V0_at V0_c) rfl rfl hl.1 rfl (lv_room (Nat.le_of_ble_eq_true rfl)) dX0_digestSkin_23 ⟨Nat.le_trans (Nat.le_of_ble_eq_true rfl) hRc, Nat.le_trans (Nat.le_of_ble_eq_true rfl) hRs⟩) hS (fun _ _ h => h.elim) (fun _ h => h.elim) (fun r_3 _ t H1 locs ht hvm hw_3 hB hz hk hS => ?_)
        have hP := P_kept hP hk
        obtain rfl := hw_3
        refine lv_i2l hx hb dX0_digestSkin_26 rfl ?_
        refine lv_ladd hx hb dX0_digestSkin_27 ?_
        refine lv_lstore (lv' := [(4, .long ((da * 31) + ((skT F s0 a9).toInt64))), (0, .ref (ad 0)), (1, .long d0), (3, .int (nI s0)), (6, .int (nI a9))]) hx hb dX0_digestSkin_28 hl (by decide) rfl (fun ls hl => ?_)
        refine lv_iinc (k := 4) (v := nI (a9 + 1)) (lv' := [(6, .int (nI (a9 + 1))), (4, .long ((da * 31) + ((skT F s0 a9).toInt64))), (0, .ref (ad 0)), (1, .long d0), (3, .int (nI s0))]) hx hb dX0_digestSkin_30 hl rfl (nI_add a9 1) (by decide) rfl (fun ls hl => ?_)
        refine lv_goto (tgt := 6) hx hb dX0_digestSkin_33 (by decide) ?_
        exact ih6 ((da * 31) + ((skT F s0 a9).toInt64)) (a9 + 1) _ _ _ (by omega) (by omega) (by rw [ea]; rfl) hP hS (lv_sub hl [2, 3, 4, 1, 0] rfl)
  exact L6 _ d0 0 _ _ _ (Nat.lt_succ_self _) (by omega) rfl hP hS (lv_sub hl [2, 3, 4, 1, 0] rfl)
set_option maxHeartbeats 4000000 in
set_option maxRecDepth 100000 in
/-- digest -/
theorem c_X0_digest (l : Launch) (D : va_G) (cI cZ cO : ClassId) (ad : Nat → Nat) (n np nq : Nat) (F : Nat → Nat → Int32) (hn : n ≤ 10) (hnp : np ≤ 150) (hnq : nq ≤ 20) (hrip : ∀ q, q < nq → F 12 q = 0 ∨ F 12 q = 1) : Met l yX0_digest wsX0_digest ({ frames := 4, cells := 0, slots := 0, locals := 98 } : Room) (va_Pc [.ref (ad 0)] (Pr D (gT cI cZ cO) (wG cI cZ cO ad n np nq F) V0)) (va_Ql (S := Unit) (fun (r : Int64) (_ : Unit) => r = dG n np nq F) (fun _ _ => True) (fun _ => False)) 0 0 (fun _ => False) := by
  refine Met.ofW (cc := cX0_digest) (maxL := 5) (ret := (some .long)) (by decide) rfl ?_
  intro p e s m args below meth c s₁ B hml hv
  obtain ⟨hargs, hP, hK, hV⟩ := hv
  have hx := B.exec
  have hb := B.bytes
  have hr := B.returns
  have hts := atoms_spec (ws := wsX0_digest) B.pre
  have hown : s.vm.findClass RX0 = some m.cls := findClass_of_methodNamed B.named
  have hlocks := B.notSynchronized
  have hS : va_S (fun _ => False) s.heap s.heap [] := va_S.rf
  have hiw : ∀ w ∈ wsX00, w ∈ wsX0_digest := (fun _ h => List.mem_cons_of_mem _ (List.mem_append_right _ h))
  have hRf : 4 ≤ (headSpec wsX0_digest ({ frames := 4, cells := 0, slots := 0, locals := 98 } : Room)).room.frames := Nat.le_refl _
  have hRl : 98 ≤ (headSpec wsX0_digest ({ frames := 4, cells := 0, slots := 0, locals := 98 } : Room)).room.locals := Nat.le_refl _
  have hRc : 0 ≤ (headSpec wsX0_digest ({ frames := 4, cells := 0, slots := 0, locals := 98 } : Room)).room.cells := Nat.le_refl _
  have hRs : 0 ≤ (headSpec wsX0_digest ({ frames := 4, cells := 0, slots := 0, locals := 98 } : Room)).room.slots := Nat.le_refl _
  generalize (headSpec wsX0_digest ({ frames := 4, cells := 0, slots := 0, locals := 98 } : Room)).room = R at hRf hRl hRc hRs ⊢
  have hl := lv_entry [.ref (ad 0)] (n := 5) (Nat.le_of_ble_eq_true rfl)
  refine W.eq (show entryFrame m args 5 = _ from by rw [hargs, lg_entry_eq]) ?_
  generalize (lg_sl [.ref (ad 0)] ++ List.replicate (5 - (lg_sl [.ref (ad 0)]).length) Slot.unset).toArray = ls at hl ⊢
  have hl : lv_has ls 5 [(0, .ref (ad 0))] := hl
  generalize hQ : MQ _ _ _ _ _ _ _ = Q
  refine lv_ldc2 (v := 1087) hx hb hown (hts (.constantLong RX0 177 (1087)) (by decide +kernel)) dX0_digest_0 ?_
  refine lv_lstore_n (lv' := [(1, .long 1087), (0, .ref (ad 0))]) hx hb dX0_digest_3 rfl hl (by decide) rfl (fun ls hl => ?_)
  refine lv_iconst (v := nI 0) hx hb dX0_digest_4 (by decide) ?_
  refine lv_istore_n (lv' := [(3, .int (nI 0)), (1, .long 1087), (0, .ref (ad 0))]) hx hb dX0_digest_5 rfl hl (by decide) rfl (fun ls hl => ?_)
  have L6 : ∀ (fu : Nat) (da : Int64) (a9 : Nat) (H : Heap) (locs : List Loc) (ls : Array Slot), 7 - a9 < fu → (a9 ≤ 7) → (da = dS (cnT n np nq F) 1087 a9) → va_P D vwCl (wG cI cZ cO ad n np nq F) H → va_S (fun _ => False) s.heap H locs → lv_has ls 5 [(0, .ref (ad 0)), (1, .long da), (3, .int (nI a9))] → W p l e R s m args below meth c H locs 0 0 Q (F0 m 6 ls []) := by
    intro fu
    induction fu with
    | zero => intro _ _ _ _ _ h; exact absurd h (Nat.not_lt_zero _)
    | succ fu ih6 =>
      intro da a9 H locs ls hm6 ga ea hP  hS hl
      refine lv_iload_n hx hb dX0_digest_6 rfl (lv_at hl 2 rfl) ?_
      refine lv_bipush (v := nI 7) hx hb dX0_digest_7 (by decide) ?_
      refine nv_icmp_ge (tgt := 31) hx hb (by omega) (by omega) dX0_digest_9 (by decide) (fun c_1 => ?_) (fun c_1 => ?_)
      · refine lv_iconst (v := nI 0) hx hb dX0_digest_31 (by decide) ?_
        refine lv_istore_n (lv' := [(3, .int (nI 0)), (0, .ref (ad 0)), (1, .long da)]) hx hb dX0_digest_32 rfl hl (by decide) rfl (fun ls hl => ?_)
        have L33 : ∀ (fu : Nat) (db : Int64) (b9 : Nat) (H : Heap) (locs : List Loc) (ls : Array Slot), n - b9 < fu → (b9 ≤ n) → (db = dK F (dS (cnT n np nq F) 1087 7) b9) → va_P D vwCl (wG cI cZ cO ad n np nq F) H → va_S (fun _ => False) s.heap H locs → lv_has ls 5 [(0, .ref (ad 0)), (1, .long db), (3, .int (nI b9))] → W p l e R s m args below meth c H locs 0 0 Q (F0 m 33 ls []) := by
          intro fu
          induction fu with
          | zero => intro _ _ _ _ _ h; exact absurd h (Nat.not_lt_zero _)
          | succ fu ih33 =>
            intro db b9 H locs ls hm33 gb eb hP  hS hl
            refine lv_iload_n hx hb dX0_digest_33 rfl (lv_at hl 2 rfl) ?_
            refine lv_aload_n hx hb dX0_digest_34 rfl (lv_at hl 0 rfl) ?_
            refine va_get (D := D) (ci := 0) (v := .int (nI n)) (C := RX0) (T := TX0) (N := 16) hx hb hts hiw hown hK hP 0 g_at0 rfl 0 (by decide) (hts (.fieldLink RX0 56 "GloveCutters" "skins" "I") (by decide +kernel)) (fun _ h9 => h9) rfl dX0_digest_35 ?_
            refine nv_icmp_ge (tgt := 54) hx hb (by omega) (by omega) dX0_digest_38 (by decide) (fun c_2 => ?_) (fun c_2 => ?_)
            · refine lv_iconst (v := nI 0) hx hb dX0_digest_54 (by decide) ?_
              refine lv_istore_n (lv' := [(3, .int (nI 0)), (0, .ref (ad 0)), (1, .long db)]) hx hb dX0_digest_55 rfl hl (by decide) rfl (fun ls hl => ?_)
              have L56 : ∀ (fu : Nat) (dp : Int64) (p9 : Nat) (H : Heap) (locs : List Loc) (ls : Array Slot), np - p9 < fu → (p9 ≤ np) → (dp = dP F (dK F (dS (cnT n np nq F) 1087 7) n) p9) → va_P D vwCl (wG cI cZ cO ad n np nq F) H → va_S (fun _ => False) s.heap H locs → lv_has ls 5 [(0, .ref (ad 0)), (1, .long dp), (3, .int (nI p9))] → W p l e R s m args below meth c H locs 0 0 Q (F0 m 56 ls []) := by
                intro fu
                induction fu with
                | zero => intro _ _ _ _ _ h; exact absurd h (Nat.not_lt_zero _)
                | succ fu ih56 =>
                  intro dp p9 H locs ls hm56 gp ep hP  hS hl
                  refine lv_iload_n hx hb dX0_digest_56 rfl (lv_at hl 2 rfl) ?_
                  refine lv_aload_n hx hb dX0_digest_57 rfl (lv_at hl 0 rfl) ?_
                  refine va_get (D := D) (ci := 0) (v := .int (nI np)) (C := RX0) (T := TX0) (N := 16) hx hb hts hiw hown hK hP 0 g_at0 rfl 4 (by decide) (hts (.fieldLink RX0 107 "GloveCutters" "pieces" "I") (by decide +kernel)) (fun _ h9 => h9) rfl dX0_digest_58 ?_
                  refine nv_icmp_ge (tgt := 100) hx hb (by omega) (by omega) dX0_digest_61 (by decide) (fun c_3 => ?_) (fun c_3 => ?_)
                  · refine lv_iconst (v := nI 0) hx hb dX0_digest_100 (by decide) ?_
                    refine lv_istore_n (lv' := [(3, .int (nI 0)), (0, .ref (ad 0)), (1, .long dp)]) hx hb dX0_digest_101 rfl hl (by decide) rfl (fun ls hl => ?_)
                    have L102 : ∀ (fu : Nat) (dq : Int64) (q9 : Nat) (H : Heap) (locs : List Loc) (ls : Array Slot), nq - q9 < fu → (q9 ≤ nq) → (dq = dQ F (dP F (dK F (dS (cnT n np nq F) 1087 7) n) np) q9) → va_P D vwCl (wG cI cZ cO ad n np nq F) H → va_S (fun _ => False) s.heap H locs → lv_has ls 5 [(0, .ref (ad 0)), (1, .long dq), (3, .int (nI q9))] → W p l e R s m args below meth c H locs 0 0 Q (F0 m 102 ls []) := by
                      intro fu
                      induction fu with
                      | zero => intro _ _ _ _ _ h; exact absurd h (Nat.not_lt_zero _)
                      | succ fu ih102 =>
                        intro dq q9 H locs ls hm102 gq eq hP  hS hl
                        refine lv_iload_n hx hb dX0_digest_102 rfl (lv_at hl 2 rfl) ?_
                        refine lv_aload_n hx hb dX0_digest_103 rfl (lv_at hl 0 rfl) ?_
                        refine va_get (D := D) (ci := 0) (v := .int (nI nq)) (C := RX0) (T := TX0) (N := 16) hx hb hts hiw hown hK hP 0 g_at0 rfl 9 (by decide) (hts (.fieldLink RX0 136 "GloveCutters" "sewn" "I") (by decide +kernel)) (fun _ h9 => h9) rfl dX0_digest_104 ?_
                        refine nv_icmp_ge (tgt := 146) hx hb (by omega) (by omega) dX0_digest_107 (by decide) (fun c_4 => ?_) (fun c_4 => ?_)
                        · refine lv_lload_n hx hb dX0_digest_146 rfl (lv_at hl 1 rfl) ?_
                          rw [← hQ]
                          exact W.lret (v := dq) hx hb hr (fun t ht hW => ⟨⟨dq, (), rfl, (by rw [eq, show q9 = nq by omega]; rfl), trivial⟩, hS.F ht⟩) hS.2.2 dX0_digest_147
                        · refine lv_iconst (v := nI 0) hx hb dX0_digest_110 (by decide) ?_
                          refine lv_istore (lv' := [(4, .int (nI 0)), (0, .ref (ad 0)), (1, .long dq), (3, .int (nI q9))]) hx hb dX0_digest_111 hl (by decide) rfl (fun ls hl => ?_)
                          have L113 : ∀ (fu : Nat) (dv : Int64) (v9 : Nat) (H : Heap) (locs : List Loc) (ls : Array Slot), 5 - v9 < fu → (v9 ≤ 5) → (dv = dS (prT F q9) dq v9) → va_P D vwCl (wG cI cZ cO ad n np nq F) H → va_S (fun _ => False) s.heap H locs → lv_has ls 5 [(0, .ref (ad 0)), (1, .long dv), (3, .int (nI q9)), (4, .int (nI v9))] → W p l e R s m args below meth c H locs 0 0 Q (F0 m 113 ls []) := by
                            intro fu
                            induction fu with
                            | zero => intro _ _ _ _ _ h; exact absurd h (Nat.not_lt_zero _)
                            | succ fu ih113 =>
                              intro dv v9 H locs ls hm113 gv ev hP  hS hl
                              refine lv_iload hx hb dX0_digest_113 (lv_at hl 3 rfl) ?_
                              refine lv_iconst (v := nI 5) hx hb dX0_digest_115 (by decide) ?_
                              refine nv_icmp_ge (tgt := 140) hx hb (by omega) (by omega) dX0_digest_116 (by decide) (fun c_5 => ?_) (fun c_5 => ?_)
                              · refine lv_iinc (k := 2) (v := nI (q9 + 1)) (lv' := [(3, .int (nI (q9 + 1))), (0, .ref (ad 0)), (1, .long dv), (4, .int (nI v9))]) hx hb dX0_digest_140 hl rfl (nI_add q9 1) (by decide) rfl (fun ls hl => ?_)
                                refine lv_goto (tgt := 102) hx hb dX0_digest_143 (by decide) ?_
                                exact ih102 dv (q9 + 1) _ _ _ (by omega) (by omega) (by rw [ev, show v9 = 5 by omega, eq]; rfl) hP hS (lv_sub hl [1, 2, 0] rfl)
                              · refine lv_lload_n hx hb dX0_digest_119 rfl (lv_at hl 1 rfl) ?_
                                refine lv_ldc2 (v := 31) hx hb hown (hts (.constantLong RX0 179 (31)) (by decide +kernel)) dX0_digest_120 ?_
                                refine lv_lmul hx hb dX0_digest_123 ?_
                                refine lv_aload_n hx hb dX0_digest_124 rfl (lv_at hl 0 rfl) ?_
                                refine lv_iload_n hx hb dX0_digest_125 rfl (lv_at hl 2 rfl) ?_
                                refine lv_iload hx hb dX0_digest_126 (lv_at hl 3 rfl) ?_
                                refine va_calli (va_runV (As := [.int (nI q9), .int (nI v9)]) (rest := [.long (dv * 31)]) ⟨hx, hb, hml, hown, hts⟩ (c_X0_tellPair l D cI cZ cO ad n np nq F q9 v9 (by omega) hnq (by omega) hrip) (cwV 2 hts gX0_digest_X0_tellPair rfl rfl rfl (by decide +kernel) ⟨Nat.le_trans (Nat.le_of_ble_eq_true rfl) hRf, Nat.le_trans (Nat.le_of_ble_eq_true rfl) hRl⟩) (pr_V hP (ci := 0) (q0 := 0) rfl g_at0 rfl hP hK [0, 1, 2] rfl V0_at V0_c) rfl rfl hl.1 rfl (lv_room (Nat.le_of_ble_eq_true rfl)) dX0_digest_128 ⟨Nat.le_trans (Nat.le_of_ble_eq_true rfl) hRc, Nat.le_trans (Nat.le_of_ble_eq_true rfl) hRs⟩) hS (fun _ _ h => h.elim) (fun _ h => h.elim) (fun r_6 _ t H1 locs ht hvm hw_6 hB hz hk hS => ?_)
                                have hP := P_kept hP hk
                                obtain rfl := hw_6
                                refine lv_i2l hx hb dX0_digest_131 rfl ?_
                                refine lv_ladd hx hb dX0_digest_132 ?_
                                refine lv_lstore_n (lv' := [(1, .long ((dv * 31) + ((prT F q9 v9).toInt64))), (0, .ref (ad 0)), (3, .int (nI q9)), (4, .int (nI v9))]) hx hb dX0_digest_133 rfl hl (by decide) rfl (fun ls hl => ?_)
                                refine lv_iinc (k := 3) (v := nI (v9 + 1)) (lv' := [(4, .int (nI (v9 + 1))), (1, .long ((dv * 31) + ((prT F q9 v9).toInt64))), (0, .ref (ad 0)), (3, .int (nI q9))]) hx hb dX0_digest_134 hl rfl (nI_add v9 1) (by decide) rfl (fun ls hl => ?_)
                                refine lv_goto (tgt := 113) hx hb dX0_digest_137 (by decide) ?_
                                exact ih113 ((dv * 31) + ((prT F q9 v9).toInt64)) (v9 + 1) _ _ _ (by omega) (by omega) (by rw [ev]; rfl) hP hS (lv_sub hl [2, 1, 3, 0] rfl)
                          exact L113 _ dq 0 _ _ _ (Nat.lt_succ_self _) (by omega) rfl hP hS (lv_sub hl [1, 2, 3, 0] rfl)
                    exact L102 _ dp 0 _ _ _ (Nat.lt_succ_self _) (by omega) (by rw [ep, show p9 = np by omega]; rfl) hP hS (lv_sub hl [1, 2, 0] rfl)
                  · refine lv_iconst (v := nI 0) hx hb dX0_digest_64 (by decide) ?_
                    refine lv_istore (lv' := [(4, .int (nI 0)), (0, .ref (ad 0)), (1, .long dp), (3, .int (nI p9))]) hx hb dX0_digest_65 hl (by decide) rfl (fun ls hl => ?_)
                    have L67 : ∀ (fu : Nat) (du : Int64) (u9 : Nat) (H : Heap) (locs : List Loc) (ls : Array Slot), 4 - u9 < fu → (u9 ≤ 4) → (du = dS (pcT F p9) dp u9) → va_P D vwCl (wG cI cZ cO ad n np nq F) H → va_S (fun _ => False) s.heap H locs → lv_has ls 5 [(0, .ref (ad 0)), (1, .long du), (3, .int (nI p9)), (4, .int (nI u9))] → W p l e R s m args below meth c H locs 0 0 Q (F0 m 67 ls []) := by
                      intro fu
                      induction fu with
                      | zero => intro _ _ _ _ _ h; exact absurd h (Nat.not_lt_zero _)
                      | succ fu ih67 =>
                        intro du u9 H locs ls hm67 gu eu hP  hS hl
                        refine lv_iload hx hb dX0_digest_67 (lv_at hl 3 rfl) ?_
                        refine lv_iconst (v := nI 4) hx hb dX0_digest_69 (by decide) ?_
                        refine nv_icmp_ge (tgt := 94) hx hb (by omega) (by omega) dX0_digest_70 (by decide) (fun c_7 => ?_) (fun c_7 => ?_)
                        · refine lv_iinc (k := 2) (v := nI (p9 + 1)) (lv' := [(3, .int (nI (p9 + 1))), (0, .ref (ad 0)), (1, .long du), (4, .int (nI u9))]) hx hb dX0_digest_94 hl rfl (nI_add p9 1) (by decide) rfl (fun ls hl => ?_)
                          refine lv_goto (tgt := 56) hx hb dX0_digest_97 (by decide) ?_
                          exact ih56 du (p9 + 1) _ _ _ (by omega) (by omega) (by rw [eu, show u9 = 4 by omega, ep]; rfl) hP hS (lv_sub hl [1, 2, 0] rfl)
                        · refine lv_lload_n hx hb dX0_digest_73 rfl (lv_at hl 1 rfl) ?_
                          refine lv_ldc2 (v := 31) hx hb hown (hts (.constantLong RX0 179 (31)) (by decide +kernel)) dX0_digest_74 ?_
                          refine lv_lmul hx hb dX0_digest_77 ?_
                          refine lv_aload_n hx hb dX0_digest_78 rfl (lv_at hl 0 rfl) ?_
                          refine lv_iload_n hx hb dX0_digest_79 rfl (lv_at hl 2 rfl) ?_
                          refine lv_iload hx hb dX0_digest_80 (lv_at hl 3 rfl) ?_
                          refine va_calli (va_runV (As := [.int (nI p9), .int (nI u9)]) (rest := [.long (du * 31)]) ⟨hx, hb, hml, hown, hts⟩ (c_X0_tellPiece l D cI cZ cO ad n np nq F p9 u9 (by omega) hnp (by omega)) (cwV 2 hts gX0_digest_X0_tellPiece rfl rfl rfl (by decide +kernel) ⟨Nat.le_trans (Nat.le_of_ble_eq_true rfl) hRf, Nat.le_trans (Nat.le_of_ble_eq_true rfl) hRl⟩) (pr_V hP (ci := 0) (q0 := 0) rfl g_at0 rfl hP hK [0, 1, 2] rfl V0_at V0_c) rfl rfl hl.1 rfl (lv_room (Nat.le_of_ble_eq_true rfl)) dX0_digest_82 ⟨Nat.le_trans (Nat.le_of_ble_eq_true rfl) hRc, Nat.le_trans (Nat.le_of_ble_eq_true rfl) hRs⟩) hS (fun _ _ h => h.elim) (fun _ h => h.elim) (fun r_8 _ t H1 locs ht hvm hw_8 hB hz hk hS => ?_)
                          have hP := P_kept hP hk
                          obtain rfl := hw_8
                          refine lv_i2l hx hb dX0_digest_85 rfl ?_
                          refine lv_ladd hx hb dX0_digest_86 ?_
                          refine lv_lstore_n (lv' := [(1, .long ((du * 31) + ((pcT F p9 u9).toInt64))), (0, .ref (ad 0)), (3, .int (nI p9)), (4, .int (nI u9))]) hx hb dX0_digest_87 rfl hl (by decide) rfl (fun ls hl => ?_)
                          refine lv_iinc (k := 3) (v := nI (u9 + 1)) (lv' := [(4, .int (nI (u9 + 1))), (1, .long ((du * 31) + ((pcT F p9 u9).toInt64))), (0, .ref (ad 0)), (3, .int (nI p9))]) hx hb dX0_digest_88 hl rfl (nI_add u9 1) (by decide) rfl (fun ls hl => ?_)
                          refine lv_goto (tgt := 67) hx hb dX0_digest_91 (by decide) ?_
                          exact ih67 ((du * 31) + ((pcT F p9 u9).toInt64)) (u9 + 1) _ _ _ (by omega) (by omega) (by rw [eu]; rfl) hP hS (lv_sub hl [2, 1, 3, 0] rfl)
                    exact L67 _ dp 0 _ _ _ (Nat.lt_succ_self _) (by omega) rfl hP hS (lv_sub hl [1, 2, 3, 0] rfl)
              exact L56 _ db 0 _ _ _ (Nat.lt_succ_self _) (by omega) (by rw [eb, show b9 = n by omega]; rfl) hP hS (lv_sub hl [1, 2, 0] rfl)
            · refine lv_aload_n hx hb dX0_digest_41 rfl (lv_at hl 0 rfl) ?_
              refine lv_lload_n hx hb dX0_digest_42 rfl (lv_at hl 1 rfl) ?_
              refine lv_iload_n hx hb dX0_digest_43 rfl (lv_at hl 2 rfl) ?_
              refine va_calll (va_runV (As := [.long db, .int (nI b9)]) (rest := []) ⟨hx, hb, hml, hown, hts⟩ (c_X0_digestSkin l D cI cZ cO ad n np nq F db b9 (by omega)) (cwV 2 hts gX0_digest_X0_digestSkin rfl rfl rfl (by decide +kernel) ⟨Nat.le_trans (Nat.le_of_ble_eq_true rfl) hRf, Nat.le_trans (Nat.le_of_ble_eq_true rfl) hRl⟩) (pr_V hP (ci := 0) (q0 := 0) rfl g_at0 rfl hP hK [0, 1, 2] rfl V0_at V0_c) rfl rfl hl.1 rfl (lv_room (Nat.le_of_ble_eq_true rfl)) dX0_digest_44 ⟨Nat.le_trans (Nat.le_of_ble_eq_true rfl) hRc, Nat.le_trans (Nat.le_of_ble_eq_true rfl) hRs⟩) hS (fun _ _ h => h.elim) (fun _ h => h.elim) (fun r_9 _ t H1 locs ht hvm hw_9 hB hz hk hS => ?_)
              have hP := P_kept hP hk
              obtain rfl := hw_9
              refine lv_lstore_n (lv' := [(1, .long (dS (F (14 + b9)) (dS (skT F b9) db 6) 96)), (0, .ref (ad 0)), (3, .int (nI b9))]) hx hb dX0_digest_47 rfl hl (by decide) rfl (fun ls hl => ?_)
              refine lv_iinc (k := 2) (v := nI (b9 + 1)) (lv' := [(3, .int (nI (b9 + 1))), (1, .long (dS (F (14 + b9)) (dS (skT F b9) db 6) 96)), (0, .ref (ad 0))]) hx hb dX0_digest_48 hl rfl (nI_add b9 1) (by decide) rfl (fun ls hl => ?_)
              refine lv_goto (tgt := 33) hx hb dX0_digest_51 (by decide) ?_
              exact ih33 (dS (F (14 + b9)) (dS (skT F b9) db 6) 96) (b9 + 1) _ _ _ (by omega) (by omega) (by rw [eb]; rfl) hP hS (lv_sub hl [2, 1, 0] rfl)
        exact L33 _ da 0 _ _ _ (Nat.lt_succ_self _) (by omega) (by rw [ea, show a9 = 7 by omega]; rfl) hP hS (lv_sub hl [1, 2, 0] rfl)
      · refine lv_lload_n hx hb dX0_digest_12 rfl (lv_at hl 1 rfl) ?_
        refine lv_ldc2 (v := 31) hx hb hown (hts (.constantLong RX0 179 (31)) (by decide +kernel)) dX0_digest_13 ?_
        refine lv_lmul hx hb dX0_digest_16 ?_
        refine lv_aload_n hx hb dX0_digest_17 rfl (lv_at hl 0 rfl) ?_
        refine lv_iload_n hx hb dX0_digest_18 rfl (lv_at hl 2 rfl) ?_
        refine va_calli (va_runV (As := [.int (nI a9)]) (rest := [.long (da * 31)]) ⟨hx, hb, hml, hown, hts⟩ (c_X0_tellCount l D cI cZ cO ad n np nq F a9 hnp hnq (by omega)) (cwV 1 hts gX0_digest_X0_tellCount rfl rfl rfl (by decide +kernel) ⟨Nat.le_trans (Nat.le_of_ble_eq_true rfl) hRf, Nat.le_trans (Nat.le_of_ble_eq_true rfl) hRl⟩) (pr_V hP (ci := 0) (q0 := 0) rfl g_at0 rfl hP hK [0, 1, 2] rfl V0_at V0_c) rfl rfl hl.1 rfl (lv_room (Nat.le_of_ble_eq_true rfl)) dX0_digest_19 ⟨Nat.le_trans (Nat.le_of_ble_eq_true rfl) hRc, Nat.le_trans (Nat.le_of_ble_eq_true rfl) hRs⟩) hS (fun _ _ h => h.elim) (fun _ h => h.elim) (fun r_10 _ t H1 locs ht hvm hw_10 hB hz hk hS => ?_)
        have hP := P_kept hP hk
        obtain rfl := hw_10
        refine lv_i2l hx hb dX0_digest_22 rfl ?_
        refine lv_ladd hx hb dX0_digest_23 ?_
        refine lv_lstore_n (lv' := [(1, .long ((da * 31) + ((cnT n np nq F a9).toInt64))), (0, .ref (ad 0)), (3, .int (nI a9))]) hx hb dX0_digest_24 rfl hl (by decide) rfl (fun ls hl => ?_)
        refine lv_iinc (k := 2) (v := nI (a9 + 1)) (lv' := [(3, .int (nI (a9 + 1))), (1, .long ((da * 31) + ((cnT n np nq F a9).toInt64))), (0, .ref (ad 0))]) hx hb dX0_digest_25 hl rfl (nI_add a9 1) (by decide) rfl (fun ls hl => ?_)
        refine lv_goto (tgt := 6) hx hb dX0_digest_28 (by decide) ?_
        exact ih6 ((da * 31) + ((cnT n np nq F a9).toInt64)) (a9 + 1) _ _ _ (by omega) (by omega) (by rw [ea]; rfl) hP hS (lv_sub hl [2, 1, 0] rfl)
  exact L6 _ 1087 0 _ _ _ (Nat.lt_succ_self _) (by omega) rfl hP hS (lv_sub hl [2, 1, 0] rfl)
end
section
/-! the calls that change the state: what they answer, and the contents behind them -/
theorem uu {α : Type} (f : Nat → α) (k : Nat) (v w : α) : va_up (va_up f k v) k w = va_up f k w := by
  funext j
  unfold va_up
  split <;> rfl
theorem va_up_id {α : Type} (f : Nat → α) (k : Nat) : va_up f k (f k) = f := by
  funext j
  unfold va_up
  split
  · next h => rw [h]
  · rfl
def spLay (n : Nat) (c : Int32) : Nat × Int32 := if inR c 6 = true then (if n < 10 then (0, nI n) else (2, 0)) else (1, 0)
def layF (F : Nat → Nat → Int32) (n : Nat) (c : Int32) : Nat → Nat → Int32 := va_up F 1 (upd (F 1) n c)
/-- from 1 to k -/
def inW (x : Int32) (k : Nat) : Bool := decide (1 ≤ x) && decide (x ≤ nI k)
theorem inW_t {x : Int32} {n : Nat} (hn : n < 2 ^ 31) (h : inW x n = true) : ∃ j : Nat, (1 ≤ j ∧ j ≤ n) ∧ x = nI j := by
  unfold inW at h
  simp only [Bool.and_eq_true, decide_eq_true_eq] at h
  obtain ⟨j, hj, rfl⟩ := nI_of (x := x) (fun q => absurd (Int32.lt_of_lt_of_le q (show (0 : Int32) ≤ 1 by decide)) (Int32.not_lt.mpr h.1))
  exact ⟨j, ⟨(nI_leI (a := 1) (by decide) hj).mp h.1, (nI_leI hj hn).mp h.2⟩, rfl⟩
theorem inW_y {x : Int32} {k : Nat} (h1 : ¬ x < 1) (h2 : x ≤ nI k) : inW x k = true := by
  unfold inW
  rw [decide_eq_true (Int32.not_lt.mp h1), decide_eq_true h2]; rfl
theorem inW_lo {x : Int32} {k : Nat} (h1 : x < 1) : inW x k = false := by
  unfold inW
  rw [decide_eq_false (fun q => absurd h1 (Int32.not_lt.mpr q)), Bool.false_and]
theorem inW_hi {x : Int32} {k : Nat} (h2 : ¬ x ≤ nI k) : inW x k = false := by
  unfold inW
  rw [decide_eq_false h2, Bool.and_false]
theorem inW_n {j k : Nat} (h1 : 1 ≤ j) (hj : j ≤ k) (hk : k < 2 ^ 31) : inW (nI j) k = true := by
  unfold inW
  rw [decide_eq_true (show (1 : Int32) ≤ nI j from (nI_leI (a := 1) (by decide) (by omega)).mpr h1), decide_eq_true ((nI_leI (by omega) hk).mpr hj)]; rfl
theorem lt_suc {x : Int32} {k : Nat} (hk : k + 1 < 2 ^ 31) : x < nI (k + 1) ↔ x ≤ nI k := by
  rw [Int32.lt_iff_toInt_lt, Int32.le_iff_toInt_le, nI_toInt hk, nI_toInt (by omega)]
  omega
def mkF (F : Nat → Nat → Int32) (s fr w h : Nat) (v : Int32) : Nat → Nat → Int32 := va_up F (14 + s) (fl (F (14 + s)) fr w v (w * h))
def spMark (n : Nat) (F : Nat → Nat → Int32) (s x y w h v : Int32) : Nat × Int32 :=
  if (inR s n && (inR x 12 && inR y 8)) = true then
    (if (inW w (12 - cl x) && (inW h (8 - cl y) && inR v 3)) = true then
      (if ct (F (14 + cl s)) (12 * cl y + cl x) (cl w) (nI 3) (cl w * cl h) = 0 then (0, nI (cl w * cl h - ct (F (14 + cl s)) (12 * cl y + cl x) (cl w) v (cl w * cl h))) else (3, 0)) else (2, 0)) else (1, 0)
def stMark (F : Nat → Nat → Int32) (s x y w h v : Int32) : Nat → Nat → Int32 := mkF F (cl s) (12 * cl y + cl x) (cl w) (cl h) v
theorem stMark_n {F : Nat → Nat → Int32} {s x y w h : Nat} {v : Int32} (hs : s < 10) (hx : x < 12) (hy : y < 8) (hw : w ≤ 12) (hh : h ≤ 8) : stMark F (nI s) (nI x) (nI y) (nI w) (nI h) v = mkF F s (12 * y + x) w h v := by
  unfold stMark
  rw [cl_n (by omega), cl_n (by omega), cl_n (by omega), cl_n (by omega), cl_n (by omega)]
theorem spMark_1 {n : Nat} {F : Nat → Nat → Int32} {s x y w h : Nat} {v : Int32} (hn : n ≤ 10) (h1 : s < n) (h2 : x < 12) (h3 : y < 8) (hw : 1 ≤ w ∧ w ≤ 12 - x) (hh : 1 ≤ h ∧ h ≤ 8 - y) (hv : inR v 3 = true) : spMark n F (nI s) (nI x) (nI y) (nI w) (nI h) v = if ct (F (14 + s)) (12 * y + x) w (nI 3) (w * h) = 0 then (0, nI (w * h - ct (F (14 + s)) (12 * y + x) w v (w * h))) else (3, 0) := by
  unfold spMark
  rw [cl_n (j := x) (by omega), cl_n (j := y) (by omega), inR_in h1 (by omega), inR_in h2 (by omega), inR_in h3 (by omega), inW_n hw.1 hw.2 (by omega), inW_n hh.1 hh.2 (by omega), hv, cl_n (by omega), cl_n (by omega), cl_n (by omega)]; rfl
theorem spMark_2 {n : Nat} {F : Nat → Nat → Int32} {s x y : Nat} {w h v : Int32} (hn : n ≤ 10) (h1 : s < n) (h2 : x < 12) (h3 : y < 8) (hq : (inW w (12 - x) && (inW h (8 - y) && inR v 3)) = false) : spMark n F (nI s) (nI x) (nI y) w h v = (2, 0) := by
  unfold spMark
  rw [cl_n (j := x) (by omega), cl_n (j := y) (by omega), inR_in h1 (by omega), inR_in h2 (by omega), inR_in h3 (by omega), hq]; rfl
-- rip
def rp (G : Nat → Int32) (q : Int32) (g : Nat → Int32) : Nat → Nat → Int32 | 0 => g | k + 1 => if rp G q g k k == q then upd (rp G q g k) k (if G k == 2 then -2 else -1) else rp G q g k
def rpc (G : Nat → Int32) (q : Int32) (g : Nat → Int32) : Nat → Nat | 0 => 0 | k + 1 => if rp G q g k k == q then (if G k == 2 then rpc G q g k else rpc G q g k + 1) else rpc G q g k
theorem rp_n {G : Nat → Int32} {q : Int32} {g : Nat → Int32} {k : Nat} (h : ¬ rp G q g k k = q) : rp G q g (k + 1) = rp G q g k ∧ rpc G q g (k + 1) = rpc G q g k := by
  rw [rp, rpc, beq_f h]; exact ⟨rfl, rfl⟩
theorem rp_l {G : Nat → Int32} {q : Int32} {g : Nat → Int32} {k : Nat} (h : rp G q g k k = q) (h2 : G k = 2) : rp G q g (k + 1) = upd (rp G q g k) k (-2) ∧ rpc G q g (k + 1) = rpc G q g k := by
  rw [rp, rpc, beq_t h, beq_t h2]; exact ⟨rfl, rfl⟩
theorem rp_f {G : Nat → Int32} {q : Int32} {g : Nat → Int32} {k : Nat} (h : rp G q g k k = q) (h2 : ¬ G k = 2) : rp G q g (k + 1) = upd (rp G q g k) k (-1) ∧ rpc G q g (k + 1) = rpc G q g k + 1 := by
  rw [rp, rpc, beq_t h, beq_f h2]; exact ⟨rfl, rfl⟩
def ripF (F : Nat → Nat → Int32) (np q : Nat) : Nat → Nat → Int32 := va_up (va_up F 12 (upd (F 12) q (nI 1))) 6 (rp (F 5) (nI q) (F 6) np)
def spRip (np nq : Nat) (F : Nat → Nat → Int32) (q : Int32) : Nat × Int32 := if inR q nq = true then (if F 12 (cl q) == 0 then (0, nI (rpc (F 5) q (F 6) np)) else (2, 0)) else (1, 0)
theorem spRip_1 {np nq : Nat} {F : Nat → Nat → Int32} {q : Nat} (hn : nq ≤ 20) (h1 : q < nq) : spRip np nq F (nI q) = if F 12 q == 0 then (0, nI (rpc (F 5) (nI q) (F 6) np)) else (2, 0) := by
  unfold spRip
  rw [inR_in h1 (by omega), cl_n (by omega)]; rfl
-- cut
def cutF (F : Nat → Nat → Int32) (np s k : Nat) (tb : Bool) (fr : Nat) : Nat → Nat → Int32 :=
  va_up (va_up (va_up (va_up (va_up (va_up F 4 (upd (F 4) np (nI s))) 5 (upd (F 5) np (nI k))) 6 (upd (F 6) np (-1))) 7 (upd (F 7) np (nI (ct (F (14 + s)) fr (wd k tb) (nI 1) (wd k tb * hg k tb))))) (14 + s) (fl (F (14 + s)) fr (wd k tb) (nI 3) (wd k tb * hg k tb))) 2 (upd (F 2) s (F 2 s + nI 1))
def spCut (n np : Nat) (F : Nat → Nat → Int32) (s k : Int32) (tb : Bool) (x y : Int32) : Nat × Int32 :=
  if (inR s n && (inR x 12 && inR y 8)) = true then (if inR k 4 = true then (if (fitB (F (14 + cl s)) (cl k) tb (cl x) (cl y) && decide (np < 150)) = true then (0, nI np) else (3, 0)) else (2, 0)) else (1, 0)
theorem spCut_1 {n np : Nat} {F : Nat → Nat → Int32} {s k x y : Nat} {tb : Bool} (hn : n ≤ 10) (h1 : s < n) (h2 : x < 12) (h3 : y < 8) (h4 : k < 4) : spCut n np F (nI s) (nI k) tb (nI x) (nI y) = if (fitB (F (14 + s)) k tb x y && decide (np < 150)) = true then (0, nI np) else (3, 0) := by
  unfold spCut
  rw [inR_in h1 (by omega), inR_in h2 (by omega), inR_in h3 (by omega), inR_in h4 (by omega), cl_n (by omega), cl_n (by omega), cl_n (by omega), cl_n (by omega)]; rfl
def stCut (F : Nat → Nat → Int32) (np : Nat) (s k : Int32) (tb : Bool) (x y : Int32) : Nat → Nat → Int32 := cutF F np (cl s) (cl k) tb (12 * cl y + cl x)
theorem stCut_n {F : Nat → Nat → Int32} {np s k x y : Nat} {tb : Bool} (hs : s < 10) (hx : x < 12) (hy : y < 8) (hk : k < 4) : stCut F np (nI s) (nI k) tb (nI x) (nI y) = cutF F np s k tb (12 * y + x) := by
  unfold stCut
  rw [cl_n (by omega), cl_n (by omega), cl_n (by omega), cl_n (by omega)]
end
section
set_option maxHeartbeats 4000000 in
set_option maxRecDepth 100000 in
/-- lay -/
theorem c_X0_lay (l : Launch) (hst : l.stackTraces = false) (D : va_G) (cI cZ cO : ClassId) (ad : Nat → Nat) (n np nq : Nat) (F : Nat → Nat → Int32) (c0 : Int32) (hinj : inj ad 23) (hn : n ≤ 10) : vx_Met l yX0_lay wsX0_lay ({ frames := 7, cells := 2, slots := 12, locals := 102 } : Room) (va_Pc [.ref (ad 0), .int c0] (Pr D (gT cI cZ cO) (wG cI cZ cO ad n np nq F) (EnvG (inA ad 23)))) (va_Qi (S := Unit) (fun (r : Int32) (_ : Unit) => spLay n c0 = (0, r)) (fun (_ : Unit) (t : State) => va_P D vwCl (wG cI cZ cO ad (n + 1) np nq (layF F n c0)) t.heap) (inA ad 23)) (vx_X (S := Unit) (fun _ => True) (fun E (_ : Unit) (_ : State) => (E = nA ∧ spLay n c0 = (1, 0)) ∨ (E = nS ∧ spLay n c0 = (2, 0))) (fun _ => False)) 2 12 (inA ad 23) := by
  refine vx_ofW (cc := cX0_lay) (maxL := 2) (ret := (some .int)) (by decide) rfl ?_
  intro p e s m args below meth c s₁ B hml htab hv
  obtain ⟨hargs, hP, hK, hV⟩ := hv
  have hx := B.exec
  have hb := B.bytes
  have hr := B.returns
  have hts := atoms_spec (ws := wsX0_lay) B.pre
  have hown : s.vm.findClass RX0 = some m.cls := findClass_of_methodNamed B.named
  have hlocks := B.notSynchronized
  have hS : va_S (fun _ => False) s.heap s.heap [] := va_S.rf
  have hV0 : EnvG (fun _ => False) s := EnvG.nar hV sub_no
  have hiw : ∀ w ∈ wsX00, w ∈ wsX0_lay := (fun _ h => List.mem_cons_of_mem _ (List.mem_append_left _ (List.mem_append_left _ (List.mem_append_right _ h))))
  have hRf : 7 ≤ (headSpec wsX0_lay ({ frames := 7, cells := 2, slots := 12, locals := 102 } : Room)).room.frames := Nat.le_refl _
  have hRl : 102 ≤ (headSpec wsX0_lay ({ frames := 7, cells := 2, slots := 12, locals := 102 } : Room)).room.locals := Nat.le_refl _
  have hRc : 2 ≤ (headSpec wsX0_lay ({ frames := 7, cells := 2, slots := 12, locals := 102 } : Room)).room.cells := Nat.le_refl _
  have hRs : 12 ≤ (headSpec wsX0_lay ({ frames := 7, cells := 2, slots := 12, locals := 102 } : Room)).room.slots := Nat.le_refl _
  generalize (headSpec wsX0_lay ({ frames := 7, cells := 2, slots := 12, locals := 102 } : Room)).room = R at hRf hRl hRc hRs ⊢
  have hl := lv_entry [.ref (ad 0), .int c0] (n := 2) (Nat.le_of_ble_eq_true rfl)
  refine W.eq (show entryFrame m args 2 = _ from by rw [hargs, lg_entry_eq]) ?_
  generalize (lg_sl [.ref (ad 0), .int c0] ++ List.replicate (2 - (lg_sl [.ref (ad 0), .int c0]).length) Slot.unset).toArray = ls at hl ⊢
  have hl : lv_has ls 2 [(0, .ref (ad 0)), (1, .int c0)] := hl
  have hD : va_D (inA ad 23) (wG cI cZ cO ad n np nq F) := g_D hinj
  generalize hQ : vx_MQ _ _ _ _ _ _ _ _ = Q
  refine lv_iload_n hx hb dX0_lay_0 rfl (lv_at hl 1 rfl) ?_
  refine vx_callv (vx_runS (As := [.int c0]) (rest := []) ⟨hx, hb, hml, hown, hts⟩ (c_X0_needColour l hst D c0 ) (va_cwS 1 hts gX0_lay_X0_needColour rfl rfl rfl (by decide +kernel) ⟨Nat.le_trans (Nat.le_of_ble_eq_true rfl) hRf, Nat.le_trans (Nat.le_of_ble_eq_true rfl) hRl⟩) (pr_S (P_nil) hK [] rfl (hV0.at hS sub_id sub_id) EnvG_c) rfl rfl hl.1 rfl (lv_room (Nat.le_of_ble_eq_true rfl)) dX0_lay_1 ⟨Nat.le_trans (Nat.le_of_ble_eq_true rfl) hRc, Nat.le_trans (Nat.le_of_ble_eq_true rfl) hRs⟩) hS (fun _ _ h => h.elim) (fun _ h => h.elim) (fun _ _ h => h.elim) (fun E ce q9 _ t H1 locs ht hvm hpx hbx _ hk hS hce hcv hcl => ?_) (fun _ t H1 locs ht hvm hw_1 hB hz hk hS => ?_)
  · rw [← hQ]
    exact vx_out (fun x hx9 => (htab x hx9).elim) hlocks hce hcv hcl (fun t ht hal => ⟨(), trivial, Or.inl ⟨hbx.1, by unfold spLay; rw [hbx.2]; rfl⟩, hS.F ht⟩) (fun z hz => (hS.2.2 z hz).elim) (by omega) (by omega)
  have hP := P_kept hP hk
  have hc9 := hw_1
  refine lv_aload_n hx hb dX0_lay_4 rfl (lv_at hl 0 rfl) ?_
  refine va_get (D := D) (ci := 0) (v := .int (nI n)) (C := RX0) (T := TX0) (N := 16) hx hb hts hiw hown hK hP 0 g_at0 rfl 0 (by decide) (hts (.fieldLink RX0 56 "GloveCutters" "skins" "I") (by decide +kernel)) (fun _ h9 => h9) rfl dX0_lay_5 ?_
  refine lv_bipush (v := nI 10) hx hb dX0_lay_8 (by decide) ?_
  refine nv_icmp_lt (tgt := 23) hx hb (by omega) (by omega) dX0_lay_10 (by decide) (fun c_2 => ?_) (fun c_2 => ?_)
  · refine lv_aload_n hx hb dX0_lay_23 rfl (lv_at hl 0 rfl) ?_
    refine va_get (D := D) (ci := 0) (v := .ref (ad 1)) (C := RX0) (T := TX0) (N := 16) hx hb hts hiw hown hK hP 0 g_at0 rfl 1 (by decide) (hts (.fieldLink RX0 9 "GloveCutters" "skinColour" "[I") (by decide +kernel)) (fun _ h9 => h9) rfl dX0_lay_24 ?_
    refine lv_aload_n hx hb dX0_lay_27 rfl (lv_at hl 0 rfl) ?_
    refine va_get (D := D) (ci := 0) (v := .int (nI n)) (C := RX0) (T := TX0) (N := 16) hx hb hts hiw hown hK hP 0 g_at0 rfl 0 (by decide) (hts (.fieldLink RX0 56 "GloveCutters" "skins" "I") (by decide +kernel)) (fun _ h9 => h9) rfl dX0_lay_28 ?_
    refine lv_iload_n hx hb dX0_lay_31 rfl (lv_at hl 1 rfl) ?_
    have hS : va_S (inA ad 23) s.heap _ _ := S_mono hS
    refine nv_iast hx hb hK hP hD hS 1 0 g_at1 rfl (by omega) (by omega) dX0_lay_32 (fun H locs hP hD hS => ?_)
    rw [g_set1] at hP hD
    obtain ⟨F_3, eF_3⟩ : ∃ z, z = va_up F 1 (upd (F 1) n c0) := ⟨_, rfl⟩
    rw [← eF_3] at hP hD
    refine lv_aload_n hx hb dX0_lay_33 rfl (lv_at hl 0 rfl) ?_
    refine lv_dup hx hb dX0_lay_34 rfl ?_
    refine va_get (D := D) (ci := 0) (v := .int (nI n)) (C := RX0) (T := TX0) (N := 16) hx hb hts hiw hown hK hP 0 g_at0 rfl 0 (by decide) (hts (.fieldLink RX0 56 "GloveCutters" "skins" "I") (by decide +kernel)) (fun _ h9 => h9) rfl dX0_lay_35 ?_
    refine lv_iconst (v := nI 1) hx hb dX0_lay_38 (by decide) ?_
    refine nv_iadd hx hb dX0_lay_39 ?_
    refine va_put (D := D) (ci := 0) (v := .int (nI (n + 1))) (ty := .int) (C := RX0) (T := TX0) (N := 16) hx hb hts hiw tyX0 tyX0_ok nmX0 hown hK hP hD hS 0 g_at0 rfl 0 (by decide) (hts (.fieldLink RX0 56 "GloveCutters" "skins" "I") (by decide +kernel)) (fun _ h9 => h9) rfl (by decide +kernel) rfl rfl (Nat.le_of_ble_eq_true rfl) dX0_lay_40 (fun H locs hP hD hS => ?_)
    have hP : va_P D vwCl (wG cI cZ cO ad (n + 1) np nq F_3) H := hP
    have hD : va_D (inA ad 23) (wG cI cZ cO ad (n + 1) np nq F_3) := hD
    refine lv_aload_n hx hb dX0_lay_43 rfl (lv_at hl 0 rfl) ?_
    refine va_get (D := D) (ci := 0) (v := .int (nI (n + 1))) (C := RX0) (T := TX0) (N := 16) hx hb hts hiw hown hK hP 0 g_at0 rfl 0 (by decide) (hts (.fieldLink RX0 56 "GloveCutters" "skins" "I") (by decide +kernel)) (fun _ h9 => h9) rfl dX0_lay_44 ?_
    refine lv_iconst (v := nI 1) hx hb dX0_lay_47 (by decide) ?_
    refine nv_isub hx hb (by omega) dX0_lay_48 ?_
    rw [← hQ]
    refine vx_ret ?_
    refine W.widen (k := 2) (n := 12) (by omega) (by omega) ?_
    exact W.iret (v := nI ((n + 1) - 1)) hx hb hr (fun t ht hW => ⟨⟨nI ((n + 1) - 1), (), rfl, (by show spLay n c0 = (0, nI (n + 1 - 1)); rw [show n + 1 - 1 = n by omega]; unfold spLay; rw [hc9, if_pos rfl, if_pos c_2]), (by show va_P D vwCl (wG cI cZ cO ad (n + 1) np nq (layF F n c0)) t.heap; rw [ht]; subst eF_3; exact hP)⟩, hS.F ht⟩) hS.2.2 dX0_lay_49
  · obtain ⟨sa9, hsa9⟩ := hV0.2.2.2.2.2.1.2.1
    rw [← hQ]
    exact vx_throwS (names := ["java/lang/RuntimeException", "java/lang/Exception"]) hx hb hst hown (by decide +kernel) (by decide +kernel) (hts (.classLink RX0 60 "java/lang/IllegalStateException") (by decide +kernel)) (hts (.initialized "java/lang/IllegalStateException") (by decide +kernel)) hsa9 (at_S (fun w h9 => hts w ((fun _ h => List.mem_cons_of_mem _ (List.mem_append_left _ (List.mem_append_right _ h))) w h9)) hV0.2.2.2.2.2.2) gd_S hV0.2.2.2.2.1.1 hV0.2.2.2.2.1.2 hS (hl.1.trans hml.symm) dX0_lay_13 dX0_lay_16 dX0_lay_17 dX0_lay_19 dX0_lay_22 (fun x hx9 => (htab x hx9).elim) (Nat.lt_of_lt_of_le (Nat.le_of_ble_eq_true rfl) hRf) (Nat.le_trans (Nat.le_of_ble_eq_true rfl) hRl) (Nat.le_trans (Nat.le_of_ble_eq_true rfl) hRc) (Nat.le_trans (Nat.le_of_ble_eq_true rfl) hRs) hlocks (fun t9 _ hs9 hq9 => x_thr hS trivial (Or.inr ⟨rfl, by unfold spLay; rw [hc9, if_pos rfl, if_neg (by omega)]⟩) hs9 hq9) (fun z hz => (hS.2.2 z hz).elim) (by omega) (by omega)
set_option maxHeartbeats 4000000 in
set_option maxRecDepth 100000 in
/-- mark -/
theorem c_X0_mark (l : Launch) (hst : l.stackTraces = false) (D : va_G) (cI cZ cO : ClassId) (ad : Nat → Nat) (n np nq : Nat) (F : Nat → Nat → Int32) (s0 x0 y0 w0 h0 v0 : Int32) (hinj : inj ad 23) (hn : n ≤ 10) : vx_Met l yX0_mark wsX0_mark ({ frames := 7, cells := 5, slots := 30, locals := 103 } : Room) (va_Pc [.ref (ad 0), .int s0, .int x0, .int y0, .int w0, .int h0, .int v0] (Pr D (gT cI cZ cO) (wG cI cZ cO ad n np nq F) (EnvG (inA ad 23)))) (va_Qi (S := Unit) (fun (r : Int32) (_ : Unit) => spMark n F s0 x0 y0 w0 h0 v0 = (0, r)) (fun (_ : Unit) (t : State) => va_P D vwCl (wG cI cZ cO ad n np nq (stMark F s0 x0 y0 w0 h0 v0)) t.heap) (inA ad 23)) (vx_X (S := Unit) (fun _ => True) (fun E (_ : Unit) (_ : State) => (E = nX ∧ spMark n F s0 x0 y0 w0 h0 v0 = (1, 0)) ∨ (E = nA ∧ spMark n F s0 x0 y0 w0 h0 v0 = (2, 0)) ∨ (E = nS ∧ spMark n F s0 x0 y0 w0 h0 v0 = (3, 0))) (fun _ => False)) 5 30 (inA ad 23) := by
  refine vx_ofW (cc := cX0_mark) (maxL := 9) (ret := (some .int)) (by decide) rfl ?_
  intro p e s m args below meth c s₁ B hml htab hv
  obtain ⟨hargs, hP, hK, hV⟩ := hv
  have hx := B.exec
  have hb := B.bytes
  have hr := B.returns
  have hts := atoms_spec (ws := wsX0_mark) B.pre
  have hown : s.vm.findClass RX0 = some m.cls := findClass_of_methodNamed B.named
  have hlocks := B.notSynchronized
  have hS : va_S (fun _ => False) s.heap s.heap [] := va_S.rf
  have hV0 : EnvG (fun _ => False) s := EnvG.nar hV sub_no
  have hiw : ∀ w ∈ wsX00, w ∈ wsX0_mark := (fun _ h => List.mem_cons_of_mem _ (List.mem_append_left _ (List.mem_append_left _ (List.mem_append_left _ (List.mem_append_right _ h)))))
  have hRf : 7 ≤ (headSpec wsX0_mark ({ frames := 7, cells := 5, slots := 30, locals := 103 } : Room)).room.frames := Nat.le_refl _
  have hRl : 103 ≤ (headSpec wsX0_mark ({ frames := 7, cells := 5, slots := 30, locals := 103 } : Room)).room.locals := Nat.le_refl _
  have hRc : 5 ≤ (headSpec wsX0_mark ({ frames := 7, cells := 5, slots := 30, locals := 103 } : Room)).room.cells := Nat.le_refl _
  have hRs : 30 ≤ (headSpec wsX0_mark ({ frames := 7, cells := 5, slots := 30, locals := 103 } : Room)).room.slots := Nat.le_refl _
  generalize (headSpec wsX0_mark ({ frames := 7, cells := 5, slots := 30, locals := 103 } : Room)).room = R at hRf hRl hRc hRs ⊢
  have hl := lv_entry [.ref (ad 0), .int s0, .int x0, .int y0, .int w0, .int h0, .int v0] (n := 9) (Nat.le_of_ble_eq_true rfl)
  refine W.eq (show entryFrame m args 9 = _ from by rw [hargs, lg_entry_eq]) ?_
  generalize (lg_sl [.ref (ad 0), .int s0, .int x0, .int y0, .int w0, .int h0, .int v0] ++ List.replicate (9 - (lg_sl [.ref (ad 0), .int s0, .int x0, .int y0, .int w0, .int h0, .int v0]).length) Slot.unset).toArray = ls at hl ⊢
  have hl : lv_has ls 9 [(0, .ref (ad 0)), (1, .int s0), (2, .int x0), (3, .int y0), (4, .int w0), (5, .int h0), (6, .int v0)] := hl
  have hD : va_D (inA ad 23) (wG cI cZ cO ad n np nq F) := g_D hinj
  generalize hQ : vx_MQ _ _ _ _ _ _ _ _ = Q
  refine lv_aload_n hx hb dX0_mark_0 rfl (lv_at hl 0 rfl) ?_
  refine lv_iload_n hx hb dX0_mark_1 rfl (lv_at hl 1 rfl) ?_
  refine vx_callv (vx_runV (As := [.int s0]) (rest := []) ⟨hx, hb, hml, hown, hts⟩ (c_X0_needSkin l hst D cI cZ cO ad n np nq F s0 hn) (cwV 1 hts gX0_mark_X0_needSkin rfl rfl rfl (by decide +kernel) ⟨Nat.le_trans (Nat.le_of_ble_eq_true rfl) hRf, Nat.le_trans (Nat.le_of_ble_eq_true rfl) hRl⟩) (pr_V hP (ci := 0) (q0 := 0) rfl g_at0 rfl hP hK [0, 1, 2] rfl (hV0.at hS sub_id sub_id) EnvG_c) rfl rfl hl.1 rfl (lv_room (Nat.le_of_ble_eq_true rfl)) dX0_mark_2 ⟨Nat.le_trans (Nat.le_of_ble_eq_true rfl) hRc, Nat.le_trans (Nat.le_of_ble_eq_true rfl) hRs⟩) hS (fun _ _ h => h.elim) (fun _ h => h.elim) (fun _ _ h => h.elim) (fun E ce q9 _ t H1 locs ht hvm hpx hbx _ hk hS hce hcv hcl => ?_) (fun _ t H1 locs ht hvm hw_1 hB hz hk hS => ?_)
  · rw [← hQ]
    exact vx_out (fun x hx9 => (htab x hx9).elim) hlocks hce hcv hcl (fun t ht hal => ⟨(), trivial, Or.inl ⟨hbx.1, by unfold spMark; rw [hbx.2]; rfl⟩, hS.F ht⟩) (fun z hz => (hS.2.2 z hz).elim) (by omega) (by omega)
  have hP := P_kept hP hk
  obtain ⟨j, hj, rfl⟩ := inR_t (by omega) hw_1
  refine lv_iload_n hx hb dX0_mark_5 rfl (lv_at hl 2 rfl) ?_
  refine lv_iload_n hx hb dX0_mark_6 rfl (lv_at hl 3 rfl) ?_
  refine vx_callv (vx_runS (As := [.int x0, .int y0]) (rest := []) ⟨hx, hb, hml, hown, hts⟩ (c_X0_needCell l hst D x0 y0 ) (va_cwS 2 hts gX0_mark_X0_needCell rfl rfl rfl (by decide +kernel) ⟨Nat.le_trans (Nat.le_of_ble_eq_true rfl) hRf, Nat.le_trans (Nat.le_of_ble_eq_true rfl) hRl⟩) (pr_S (P_nil) hK [] rfl (hV0.at hS sub_id sub_id) EnvG_c) rfl rfl hl.1 rfl (lv_room (Nat.le_of_ble_eq_true rfl)) dX0_mark_7 ⟨Nat.le_trans (Nat.le_of_ble_eq_true rfl) hRc, Nat.le_trans (Nat.le_of_ble_eq_true rfl) hRs⟩) hS (fun _ _ h => h.elim) (fun _ h => h.elim) (fun _ _ h => h.elim) (fun E ce q9 _ t H1 locs ht hvm hpx hbx _ hk hS hce hcv hcl => ?_) (fun _ t H1 locs ht hvm hw_2 hB hz hk hS => ?_)
  · rw [← hQ]
    exact vx_out (fun x hx9 => (htab x hx9).elim) hlocks hce hcv hcl (fun t ht hal => ⟨(), trivial, Or.inl ⟨hbx.1, by unfold spMark; rw [inR_in hj (by omega), hbx.2]; rfl⟩, hS.F ht⟩) (fun z hz => (hS.2.2 z hz).elim) (by omega) (by omega)
  have hP := P_kept hP hk
  obtain ⟨x9, hx9, rfl⟩ := inR_t (by omega) hw_2.1
  obtain ⟨y9, hy9, rfl⟩ := inR_t (by omega) hw_2.2
  refine lv_iload hx hb dX0_mark_10 (lv_at hl 4 rfl) ?_
  refine lv_iconst (v := nI 1) hx hb dX0_mark_12 (by decide) ?_
  refine lv_icmp_lt (tgt := 40) hx hb dX0_mark_13 (by decide) (fun c_3 => ?_) (fun c_3 => ?_)
  · obtain ⟨sa9, hsa9⟩ := hV0.2.2.2.2.2.1.2.2.2.2.1
    rw [← hQ]
    exact vx_throwS (names := ["java/lang/RuntimeException", "java/lang/Exception"]) hx hb hst hown (by decide +kernel) (by decide +kernel) (hts (.classLink RX0 74 "java/lang/IllegalArgumentException") (by decide +kernel)) (hts (.initialized "java/lang/IllegalArgumentException") (by decide +kernel)) hsa9 (at_A (fun w h9 => hts w ((fun _ h => List.mem_cons_of_mem _ (List.mem_append_left _ (List.mem_append_left _ (List.mem_append_right _ h)))) w h9)) hV0.2.2.2.2.2.2) gd_A hV0.2.2.2.2.1.1 hV0.2.2.2.2.1.2 hS (hl.1.trans hml.symm) dX0_mark_40 dX0_mark_43 dX0_mark_44 dX0_mark_46 dX0_mark_49 (fun x hx9 => (htab x hx9).elim) (Nat.lt_of_lt_of_le (Nat.le_of_ble_eq_true rfl) hRf) (Nat.le_trans (Nat.le_of_ble_eq_true rfl) hRl) (Nat.le_trans (Nat.le_of_ble_eq_true rfl) hRc) (Nat.le_trans (Nat.le_of_ble_eq_true rfl) hRs) hlocks (fun t9 _ hs9 hq9 => x_thr hS trivial (Or.inr (Or.inl ⟨rfl, spMark_2 hn hj hx9 hy9 (by rw [inW_lo c_3]; rfl)⟩)) hs9 hq9) (fun z hz => (hS.2.2 z hz).elim) (by omega) (by omega)
  · refine lv_iload hx hb dX0_mark_16 (lv_at hl 4 rfl) ?_
    refine lv_bipush (v := nI 12) hx hb dX0_mark_18 (by decide) ?_
    refine lv_iload_n hx hb dX0_mark_20 rfl (lv_at hl 2 rfl) ?_
    refine nv_isub hx hb (by omega) dX0_mark_21 ?_
    refine lv_icmp_gt (tgt := 40) hx hb dX0_mark_22 (by decide) (fun c_4 => ?_) (fun c_4 => ?_)
    · obtain ⟨sa9, hsa9⟩ := hV0.2.2.2.2.2.1.2.2.2.2.1
      rw [← hQ]
      exact vx_throwS (names := ["java/lang/RuntimeException", "java/lang/Exception"]) hx hb hst hown (by decide +kernel) (by decide +kernel) (hts (.classLink RX0 74 "java/lang/IllegalArgumentException") (by decide +kernel)) (hts (.initialized "java/lang/IllegalArgumentException") (by decide +kernel)) hsa9 (at_A (fun w h9 => hts w ((fun _ h => List.mem_cons_of_mem _ (List.mem_append_left _ (List.mem_append_left _ (List.mem_append_right _ h)))) w h9)) hV0.2.2.2.2.2.2) gd_A hV0.2.2.2.2.1.1 hV0.2.2.2.2.1.2 hS (hl.1.trans hml.symm) dX0_mark_40 dX0_mark_43 dX0_mark_44 dX0_mark_46 dX0_mark_49 (fun x hx9 => (htab x hx9).elim) (Nat.lt_of_lt_of_le (Nat.le_of_ble_eq_true rfl) hRf) (Nat.le_trans (Nat.le_of_ble_eq_true rfl) hRl) (Nat.le_trans (Nat.le_of_ble_eq_true rfl) hRc) (Nat.le_trans (Nat.le_of_ble_eq_true rfl) hRs) hlocks (fun t9 _ hs9 hq9 => x_thr hS trivial (Or.inr (Or.inl ⟨rfl, spMark_2 hn hj hx9 hy9 (by rw [inW_hi (Int32.not_le.mpr c_4)]; rfl)⟩)) hs9 hq9) (fun z hz => (hS.2.2 z hz).elim) (by omega) (by omega)
    · refine lv_iload hx hb dX0_mark_25 (lv_at hl 5 rfl) ?_
      refine lv_iconst (v := nI 1) hx hb dX0_mark_27 (by decide) ?_
      refine lv_icmp_lt (tgt := 40) hx hb dX0_mark_28 (by decide) (fun c_5 => ?_) (fun c_5 => ?_)
      · obtain ⟨sa9, hsa9⟩ := hV0.2.2.2.2.2.1.2.2.2.2.1
        rw [← hQ]
        exact vx_throwS (names := ["java/lang/RuntimeException", "java/lang/Exception"]) hx hb hst hown (by decide +kernel) (by decide +kernel) (hts (.classLink RX0 74 "java/lang/IllegalArgumentException") (by decide +kernel)) (hts (.initialized "java/lang/IllegalArgumentException") (by decide +kernel)) hsa9 (at_A (fun w h9 => hts w ((fun _ h => List.mem_cons_of_mem _ (List.mem_append_left _ (List.mem_append_left _ (List.mem_append_right _ h)))) w h9)) hV0.2.2.2.2.2.2) gd_A hV0.2.2.2.2.1.1 hV0.2.2.2.2.1.2 hS (hl.1.trans hml.symm) dX0_mark_40 dX0_mark_43 dX0_mark_44 dX0_mark_46 dX0_mark_49 (fun x hx9 => (htab x hx9).elim) (Nat.lt_of_lt_of_le (Nat.le_of_ble_eq_true rfl) hRf) (Nat.le_trans (Nat.le_of_ble_eq_true rfl) hRl) (Nat.le_trans (Nat.le_of_ble_eq_true rfl) hRc) (Nat.le_trans (Nat.le_of_ble_eq_true rfl) hRs) hlocks (fun t9 _ hs9 hq9 => x_thr hS trivial (Or.inr (Or.inl ⟨rfl, spMark_2 hn hj hx9 hy9 (by rw [inW_lo c_5, Bool.false_and, Bool.and_false])⟩)) hs9 hq9) (fun z hz => (hS.2.2 z hz).elim) (by omega) (by omega)
      · refine lv_iload hx hb dX0_mark_31 (lv_at hl 5 rfl) ?_
        refine lv_bipush (v := nI 8) hx hb dX0_mark_33 (by decide) ?_
        refine lv_iload_n hx hb dX0_mark_35 rfl (lv_at hl 3 rfl) ?_
        refine nv_isub hx hb (by omega) dX0_mark_36 ?_
        refine lv_icmp_le (tgt := 50) hx hb dX0_mark_37 (by decide) (fun c_6 => ?_) (fun c_6 => ?_)
        · refine lv_iload hx hb dX0_mark_50 (lv_at hl 6 rfl) ?_
          refine lv_if_lt (tgt := 61) hx hb dX0_mark_52 (by decide) (fun c_7 => ?_) (fun c_7 => ?_)
          · obtain ⟨sa9, hsa9⟩ := hV0.2.2.2.2.2.1.2.2.2.2.2.1
            rw [← hQ]
            exact vx_throwS (names := ["java/lang/RuntimeException", "java/lang/Exception"]) hx hb hst hown (by decide +kernel) (by decide +kernel) (hts (.classLink RX0 74 "java/lang/IllegalArgumentException") (by decide +kernel)) (hts (.initialized "java/lang/IllegalArgumentException") (by decide +kernel)) hsa9 (at_A (fun w h9 => hts w ((fun _ h => List.mem_cons_of_mem _ (List.mem_append_left _ (List.mem_append_left _ (List.mem_append_right _ h)))) w h9)) hV0.2.2.2.2.2.2) gd_A hV0.2.2.2.2.1.1 hV0.2.2.2.2.1.2 hS (hl.1.trans hml.symm) dX0_mark_61 dX0_mark_64 dX0_mark_65 dX0_mark_67 dX0_mark_70 (fun x hx9 => (htab x hx9).elim) (Nat.lt_of_lt_of_le (Nat.le_of_ble_eq_true rfl) hRf) (Nat.le_trans (Nat.le_of_ble_eq_true rfl) hRl) (Nat.le_trans (Nat.le_of_ble_eq_true rfl) hRc) (Nat.le_trans (Nat.le_of_ble_eq_true rfl) hRs) hlocks (fun t9 _ hs9 hq9 => x_thr hS trivial (Or.inr (Or.inl ⟨rfl, spMark_2 hn hj hx9 hy9 (by rw [inR_lo c_7, Bool.and_false, Bool.and_false])⟩)) hs9 hq9) (fun z hz => (hS.2.2 z hz).elim) (by omega) (by omega)
          · refine lv_iload hx hb dX0_mark_55 (lv_at hl 6 rfl) ?_
            refine lv_iconst (v := nI 2) hx hb dX0_mark_57 (by decide) ?_
            refine lv_icmp_le (tgt := 71) hx hb dX0_mark_58 (by decide) (fun c_8 => ?_) (fun c_8 => ?_)
            · have hv9 : inR v0 3 = true := inR_y c_7 ((lt_suc (by decide)).mpr c_8)
              obtain ⟨w9, hw9, rfl⟩ := inW_t (n := 12 - x9) (by omega) (inW_y c_3 (Int32.not_lt.mp c_4))
              obtain ⟨h9, hh9, rfl⟩ := inW_t (n := 8 - y9) (by omega) (inW_y c_5 c_6)
              have hwh : w9 * h9 ≤ 96 := Nat.mul_le_mul (show w9 ≤ 12 by omega) (show h9 ≤ 8 by omega)
              refine lv_aload_n hx hb dX0_mark_71 rfl (lv_at hl 0 rfl) ?_
              refine va_get (D := D) (ci := 0) (v := .ref (ad 3)) (C := RX0) (T := TX0) (N := 16) hx hb hts hiw hown hK hP 0 g_at0 rfl 3 (by decide) (hts (.fieldLink RX0 18 "GloveCutters" "skinCells" "[[I") (by decide +kernel)) (fun _ h9 => h9) rfl dX0_mark_72 ?_
              refine lv_iload_n hx hb dX0_mark_75 rfl (lv_at hl 1 rfl) ?_
              refine nv_aald hx hb hK hP 3 2 g_at3 rfl (by omega) (by decide) (if_pos (by omega)) dX0_mark_76 ?_
              refine lv_astore (lv' := [(7, .ref (ad (14 + j))), (0, .ref (ad 0)), (1, .int (nI j)), (2, .int (nI x9)), (3, .int (nI y9)), (4, .int (nI w9)), (5, .int (nI h9)), (6, .int v0)]) hx hb dX0_mark_77 hl (by decide) rfl (fun ls hl => ?_)
              refine lv_aload hx hb dX0_mark_79 (lv_at hl 0 rfl) ?_
              refine lv_iload_n hx hb dX0_mark_81 rfl (lv_at hl 3 rfl) ?_
              refine lv_iload_n hx hb dX0_mark_82 rfl (lv_at hl 4 rfl) ?_
              refine lv_iload hx hb dX0_mark_83 (lv_at hl 5 rfl) ?_
              refine lv_iload hx hb dX0_mark_85 (lv_at hl 6 rfl) ?_
              refine lv_iconst (v := nI 3) hx hb dX0_mark_87 (by decide) ?_
              refine va_calli (va_runS (As := [.ref (ad (14 + j)), .int (nI x9), .int (nI y9), .int (nI w9), .int (nI h9), .int (nI 3)]) (rest := []) ⟨hx, hb, hml, hown, hts⟩ (c_X0_tally l D cI (ad (14 + j)) 96 (F (14 + j)) x9 y9 w9 h9 (nI 3) (by omega) (by omega) (by omega)) (va_cwS 6 hts gX0_mark_X0_tally rfl rfl rfl (by decide +kernel) ⟨Nat.le_trans (Nat.le_of_ble_eq_true rfl) hRf, Nat.le_trans (Nat.le_of_ble_eq_true rfl) hRl⟩) (pr_S (P_pick hP (k := (14 + j)) (g_atr (k := j) (by omega))) hK [0] rfl V0_at V0_c) rfl rfl hl.1 rfl (lv_room (Nat.le_of_ble_eq_true rfl)) dX0_mark_88 ⟨Nat.le_trans (Nat.le_of_ble_eq_true rfl) hRc, Nat.le_trans (Nat.le_of_ble_eq_true rfl) hRs⟩) hS (fun _ _ h => h.elim) (fun _ h => h.elim) (fun r_9 _ t H1 locs ht hvm hw_9 hB hz hk hS => ?_)
              have hP := P_kept hP hk
              obtain rfl := hw_9
              have hb9 := ct_le (F (14 + j)) (12 * y9 + x9) w9 (nI 3) (w9 * h9)
              refine nv_if_le (tgt := 104) hx hb (by omega) dX0_mark_91 (by decide) (fun c_10 => ?_) (fun c_10 => ?_)
              · refine lv_aload hx hb dX0_mark_104 (lv_at hl 0 rfl) ?_
                refine lv_iload_n hx hb dX0_mark_106 rfl (lv_at hl 3 rfl) ?_
                refine lv_iload_n hx hb dX0_mark_107 rfl (lv_at hl 4 rfl) ?_
                refine lv_iload hx hb dX0_mark_108 (lv_at hl 5 rfl) ?_
                refine lv_iload hx hb dX0_mark_110 (lv_at hl 6 rfl) ?_
                refine lv_iload hx hb dX0_mark_112 (lv_at hl 7 rfl) ?_
                refine va_calli (va_runS (As := [.ref (ad (14 + j)), .int (nI x9), .int (nI y9), .int (nI w9), .int (nI h9), .int v0]) (rest := []) ⟨hx, hb, hml, hown, hts⟩ (c_X0_tally l D cI (ad (14 + j)) 96 (F (14 + j)) x9 y9 w9 h9 v0 (by omega) (by omega) (by omega)) (va_cwS 6 hts gX0_mark_X0_tally rfl rfl rfl (by decide +kernel) ⟨Nat.le_trans (Nat.le_of_ble_eq_true rfl) hRf, Nat.le_trans (Nat.le_of_ble_eq_true rfl) hRl⟩) (pr_S (P_pick hP (k := (14 + j)) (g_atr (k := j) (by omega))) hK [0] rfl V0_at V0_c) rfl rfl hl.1 rfl (lv_room (Nat.le_of_ble_eq_true rfl)) dX0_mark_114 ⟨Nat.le_trans (Nat.le_of_ble_eq_true rfl) hRc, Nat.le_trans (Nat.le_of_ble_eq_true rfl) hRs⟩) hS (fun _ _ h => h.elim) (fun _ h => h.elim) (fun r_11 _ t H1 locs ht hvm hw_11 hB hz hk hS => ?_)
                have hP := P_kept hP hk
                obtain rfl := hw_11
                have hb8 := ct_le (F (14 + j)) (12 * y9 + x9) w9 v0 (w9 * h9)
                refine lv_istore (lv' := [(8, .int (nI (ct (F (14 + j)) (12 * y9 + x9) w9 v0 (w9 * h9)))), (7, .ref (ad (14 + j))), (0, .ref (ad 0)), (1, .int (nI j)), (2, .int (nI x9)), (3, .int (nI y9)), (4, .int (nI w9)), (5, .int (nI h9)), (6, .int v0)]) hx hb dX0_mark_117 hl (by decide) rfl (fun ls hl => ?_)
                refine lv_aload hx hb dX0_mark_119 (lv_at hl 1 rfl) ?_
                refine lv_iload_n hx hb dX0_mark_121 rfl (lv_at hl 4 rfl) ?_
                refine lv_iload_n hx hb dX0_mark_122 rfl (lv_at hl 5 rfl) ?_
                refine lv_iload hx hb dX0_mark_123 (lv_at hl 6 rfl) ?_
                refine lv_iload hx hb dX0_mark_125 (lv_at hl 7 rfl) ?_
                refine lv_iload hx hb dX0_mark_127 (lv_at hl 8 rfl) ?_
                have hS : va_S (inA ad 23) s.heap _ _ := S_mono hS
                refine va_callv (va_runS (As := [.ref (ad (14 + j)), .int (nI x9), .int (nI y9), .int (nI w9), .int (nI h9), .int v0]) (rest := []) ⟨hx, hb, hml, hown, hts⟩ (c_X0_paint l D cI (ad (14 + j)) 96 (F (14 + j)) x9 y9 w9 h9 v0 (by omega) (by omega) (by omega)) (va_cwS 6 hts gX0_mark_X0_paint rfl rfl rfl (by decide +kernel) ⟨Nat.le_trans (Nat.le_of_ble_eq_true rfl) hRf, Nat.le_trans (Nat.le_of_ble_eq_true rfl) hRl⟩) (pr_S (P_pick hP (k := (14 + j)) (g_atr (k := j) (by omega))) hK [0] rfl V0_at V0_c) rfl rfl hl.1 rfl (lv_room (Nat.le_of_ble_eq_true rfl)) dX0_mark_129 ⟨Nat.le_trans (Nat.le_of_ble_eq_true rfl) hRc, Nat.le_trans (Nat.le_of_ble_eq_true rfl) hRs⟩) hS (fun q _ h => ⟨(14 + j), by omega, h⟩) (fun q h => ⟨(14 + j), by omega, h⟩) (fun _ t H1 locs ht hvm hw_12 hB hz hk hS => ?_)
                rw [ht] at hB
                have hP := P_put hP hD (g_atr (k := j) (by omega)) hk hB
                rw [g_setr (by omega)] at hP
                obtain ⟨F_13, eF_13⟩ : ∃ z, z = va_up F (14 + j) (fl (F (14 + j)) (12 * y9 + x9) w9 v0 (w9 * h9)) := ⟨_, rfl⟩
                rw [← eF_13] at hP
                have hD : va_D (inA ad 23) (wG cI cZ cO ad n np nq F_13) := g_D hinj
                refine lv_iload hx hb dX0_mark_132 (lv_at hl 6 rfl) ?_
                refine lv_iload hx hb dX0_mark_134 (lv_at hl 7 rfl) ?_
                refine nv_imul hx hb dX0_mark_136 ?_
                refine lv_iload hx hb dX0_mark_137 (lv_at hl 0 rfl) ?_
                refine nv_isub hx hb (by omega) dX0_mark_139 ?_
                rw [← hQ]
                refine vx_ret ?_
                refine W.widen (k := 5) (n := 30) (by omega) (by omega) ?_
                exact W.iret (v := nI ((w9 * h9) - (ct (F (14 + j)) (12 * y9 + x9) w9 v0 (w9 * h9)))) hx hb hr (fun t ht hW => ⟨⟨nI ((w9 * h9) - (ct (F (14 + j)) (12 * y9 + x9) w9 v0 (w9 * h9))), (), rfl, (by show spMark n F (nI j) (nI x9) (nI y9) (nI w9) (nI h9) v0 = _; rw [spMark_1 hn hj hx9 hy9 hw9 hh9 hv9, if_pos c_10]), (by show va_P D vwCl (wG cI cZ cO ad n np nq (stMark F (nI j) (nI x9) (nI y9) (nI w9) (nI h9) v0)) t.heap; rw [ht, stMark_n (by omega) hx9 hy9 (by omega) (by omega)]; subst eF_13; exact hP)⟩, hS.F ht⟩) hS.2.2 dX0_mark_140
              · obtain ⟨sa9, hsa9⟩ := hV0.2.2.2.2.2.1.2.2.2.2.2.2.1
                rw [← hQ]
                exact vx_throwS (names := ["java/lang/RuntimeException", "java/lang/Exception"]) hx hb hst hown (by decide +kernel) (by decide +kernel) (hts (.classLink RX0 60 "java/lang/IllegalStateException") (by decide +kernel)) (hts (.initialized "java/lang/IllegalStateException") (by decide +kernel)) hsa9 (at_S (fun w h9 => hts w ((fun _ h => List.mem_cons_of_mem _ (List.mem_append_left _ (List.mem_append_right _ h))) w h9)) hV0.2.2.2.2.2.2) gd_S hV0.2.2.2.2.1.1 hV0.2.2.2.2.1.2 hS (hl.1.trans hml.symm) dX0_mark_94 dX0_mark_97 dX0_mark_98 dX0_mark_100 dX0_mark_103 (fun x hx9 => (htab x hx9).elim) (Nat.lt_of_lt_of_le (Nat.le_of_ble_eq_true rfl) hRf) (Nat.le_trans (Nat.le_of_ble_eq_true rfl) hRl) (Nat.le_trans (Nat.le_of_ble_eq_true rfl) hRc) (Nat.le_trans (Nat.le_of_ble_eq_true rfl) hRs) hlocks (fun t9 _ hs9 hq9 => x_thr hS trivial (Or.inr (Or.inr ⟨rfl, by rw [spMark_1 hn hj hx9 hy9 hw9 hh9 hv9, if_neg (by omega)]⟩)) hs9 hq9) (fun z hz => (hS.2.2 z hz).elim) (by omega) (by omega)
            · obtain ⟨sa9, hsa9⟩ := hV0.2.2.2.2.2.1.2.2.2.2.2.1
              rw [← hQ]
              exact vx_throwS (names := ["java/lang/RuntimeException", "java/lang/Exception"]) hx hb hst hown (by decide +kernel) (by decide +kernel) (hts (.classLink RX0 74 "java/lang/IllegalArgumentException") (by decide +kernel)) (hts (.initialized "java/lang/IllegalArgumentException") (by decide +kernel)) hsa9 (at_A (fun w h9 => hts w ((fun _ h => List.mem_cons_of_mem _ (List.mem_append_left _ (List.mem_append_left _ (List.mem_append_right _ h)))) w h9)) hV0.2.2.2.2.2.2) gd_A hV0.2.2.2.2.1.1 hV0.2.2.2.2.1.2 hS (hl.1.trans hml.symm) dX0_mark_61 dX0_mark_64 dX0_mark_65 dX0_mark_67 dX0_mark_70 (fun x hx9 => (htab x hx9).elim) (Nat.lt_of_lt_of_le (Nat.le_of_ble_eq_true rfl) hRf) (Nat.le_trans (Nat.le_of_ble_eq_true rfl) hRl) (Nat.le_trans (Nat.le_of_ble_eq_true rfl) hRc) (Nat.le_trans (Nat.le_of_ble_eq_true rfl) hRs) hlocks (fun t9 _ hs9 hq9 => x_thr hS trivial (Or.inr (Or.inl ⟨rfl, spMark_2 hn hj hx9 hy9 (by rw [inR_hi (fun q9 => c_8 ((lt_suc (k := 2) (by decide)).mp q9)), Bool.and_false, Bool.and_false])⟩)) hs9 hq9) (fun z hz => (hS.2.2 z hz).elim) (by omega) (by omega)
        · obtain ⟨sa9, hsa9⟩ := hV0.2.2.2.2.2.1.2.2.2.2.1
          rw [← hQ]
          exact vx_throwS (names := ["java/lang/RuntimeException", "java/lang/Exception"]) hx hb hst hown (by decide +kernel) (by decide +kernel) (hts (.classLink RX0 74 "java/lang/IllegalArgumentException") (by decide +kernel)) (hts (.initialized "java/lang/IllegalArgumentException") (by decide +kernel)) hsa9 (at_A (fun w h9 => hts w ((fun _ h => List.mem_cons_of_mem _ (List.mem_append_left _ (List.mem_append_left _ (List.mem_append_right _ h)))) w h9)) hV0.2.2.2.2.2.2) gd_A hV0.2.2.2.2.1.1 hV0.2.2.2.2.1.2 hS (hl.1.trans hml.symm) dX0_mark_40 dX0_mark_43 dX0_mark_44 dX0_mark_46 dX0_mark_49 (fun x hx9 => (htab x hx9).elim) (Nat.lt_of_lt_of_le (Nat.le_of_ble_eq_true rfl) hRf) (Nat.le_trans (Nat.le_of_ble_eq_true rfl) hRl) (Nat.le_trans (Nat.le_of_ble_eq_true rfl) hRc) (Nat.le_trans (Nat.le_of_ble_eq_true rfl) hRs) hlocks (fun t9 _ hs9 hq9 => x_thr hS trivial (Or.inr (Or.inl ⟨rfl, spMark_2 hn hj hx9 hy9 (by rw [inW_hi c_6, Bool.false_and, Bool.and_false])⟩)) hs9 hq9) (fun z hz => (hS.2.2 z hz).elim) (by omega) (by omega)
set_option maxHeartbeats 4000000 in
set_option maxRecDepth 100000 in
/-- cut -/
theorem c_X0_cut (l : Launch) (hst : l.stackTraces = false) (D : va_G) (cI cZ cO : ClassId) (ad : Nat → Nat) (n np nq : Nat) (F : Nat → Nat → Int32) (s0 k0 : Int32) (tb : Bool) (x0 y0 : Int32) (hinj : inj ad 23) (hn : n ≤ 10) (hnp : np ≤ 150) : vx_Met l yX0_cut wsX0_cut ({ frames := 7, cells := 5, slots := 30, locals := 103 } : Room) (va_Pc [.ref (ad 0), .int s0, .int k0, .int (bI tb), .int x0, .int y0] (Pr D (gT cI cZ cO) (wG cI cZ cO ad n np nq F) (EnvG (inA ad 23)))) (va_Qi (S := Unit) (fun (r : Int32) (_ : Unit) => spCut n np F s0 k0 tb x0 y0 = (0, r)) (fun (_ : Unit) (t : State) => va_P D vwCl (wG cI cZ cO ad n (np + 1) nq (stCut F np s0 k0 tb x0 y0)) t.heap) (inA ad 23)) (vx_X (S := Unit) (fun _ => True) (fun E (_ : Unit) (_ : State) => (E = nX ∧ spCut n np F s0 k0 tb x0 y0 = (1, 0)) ∨ (E = nA ∧ spCut n np F s0 k0 tb x0 y0 = (2, 0)) ∨ (E = nS ∧ spCut n np F s0 k0 tb x0 y0 = (3, 0))) (fun _ => False)) 5 30 (inA ad 23) := by
  refine vx_ofW (cc := cX0_cut) (maxL := 9) (ret := (some .int)) (by decide) rfl ?_
  intro p e s m args below meth c s₁ B hml htab hv
  obtain ⟨hargs, hP, hK, hV⟩ := hv
  have hx := B.exec
  have hb := B.bytes
  have hr := B.returns
  have hts := atoms_spec (ws := wsX0_cut) B.pre
  have hown : s.vm.findClass RX0 = some m.cls := findClass_of_methodNamed B.named
  have hlocks := B.notSynchronized
  have hS : va_S (fun _ => False) s.heap s.heap [] := va_S.rf
  have hV0 : EnvG (fun _ => False) s := EnvG.nar hV sub_no
  have hiw : ∀ w ∈ wsX00, w ∈ wsX0_cut := (fun _ h => List.mem_cons_of_mem _ (List.mem_append_left _ (List.mem_append_left _ (List.mem_append_left _ (List.mem_append_right _ h)))))
  have hRf : 7 ≤ (headSpec wsX0_cut ({ frames := 7, cells := 5, slots := 30, locals := 103 } : Room)).room.frames := Nat.le_refl _
  have hRl : 103 ≤ (headSpec wsX0_cut ({ frames := 7, cells := 5, slots := 30, locals := 103 } : Room)).room.locals := Nat.le_refl _
  have hRc : 5 ≤ (headSpec wsX0_cut ({ frames := 7, cells := 5, slots := 30, locals := 103 } : Room)).room.cells := Nat.le_refl _
  have hRs : 30 ≤ (headSpec wsX0_cut ({ frames := 7, cells := 5, slots := 30, locals := 103 } : Room)).room.slots := Nat.le_refl _
  generalize (headSpec wsX0_cut ({ frames := 7, cells := 5, slots := 30, locals := 103 } : Room)).room = R at hRf hRl hRc hRs ⊢
  have hl := lv_entry [.ref (ad 0), .int s0, .int k0, .int (bI tb), .int x0, .int y0] (n := 9) (Nat.le_of_ble_eq_true rfl)
  refine W.eq (show entryFrame m args 9 = _ from by rw [hargs, lg_entry_eq]) ?_
  generalize (lg_sl [.ref (ad 0), .int s0, .int k0, .int (bI tb), .int x0, .int y0] ++ List.replicate (9 - (lg_sl [.ref (ad 0), .int s0, .int k0, .int (bI tb), .int x0, .int y0]).length) Slot.unset).toArray = ls at hl ⊢
  have hl : lv_has ls 9 [(0, .ref (ad 0)), (1, .int s0), (2, .int k0), (3, .int (bI tb)), (4, .int x0), (5, .int y0)] := hl
  have hD : va_D (inA ad 23) (wG cI cZ cO ad n np nq F) := g_D hinj
  generalize hQ : vx_MQ _ _ _ _ _ _ _ _ = Q
  refine lv_aload_n hx hb dX0_cut_0 rfl (lv_at hl 0 rfl) ?_
  refine lv_iload_n hx hb dX0_cut_1 rfl (lv_at hl 1 rfl) ?_
  refine vx_callv (vx_runV (As := [.int s0]) (rest := []) ⟨hx, hb, hml, hown, hts⟩ (c_X0_needSkin l hst D cI cZ cO ad n np nq F s0 hn) (cwV 1 hts gX0_cut_X0_needSkin rfl rfl rfl (by decide +kernel) ⟨Nat.le_trans (Nat.le_of_ble_eq_true rfl) hRf, Nat.le_trans (Nat.le_of_ble_eq_true rfl) hRl⟩) (pr_V hP (ci := 0) (q0 := 0) rfl g_at0 rfl hP hK [0, 1, 2] rfl (hV0.at hS sub_id sub_id) EnvG_c) rfl rfl hl.1 rfl (lv_room (Nat.le_of_ble_eq_true rfl)) dX0_cut_2 ⟨Nat.le_trans (Nat.le_of_ble_eq_true rfl) hRc, Nat.le_trans (Nat.le_of_ble_eq_true rfl) hRs⟩) hS (fun _ _ h => h.elim) (fun _ h => h.elim) (fun _ _ h => h.elim) (fun E ce q9 _ t H1 locs ht hvm hpx hbx _ hk hS hce hcv hcl => ?_) (fun _ t H1 locs ht hvm hw_1 hB hz hk hS => ?_)
  · rw [← hQ]
    exact vx_out (fun x hx9 => (htab x hx9).elim) hlocks hce hcv hcl (fun t ht hal => ⟨(), trivial, Or.inl ⟨hbx.1, by unfold spCut; rw [hbx.2]; rfl⟩, hS.F ht⟩) (fun z hz => (hS.2.2 z hz).elim) (by omega) (by omega)
  have hP := P_kept hP hk
  obtain ⟨j, hj, rfl⟩ := inR_t (by omega) hw_1
  refine lv_iload hx hb dX0_cut_5 (lv_at hl 4 rfl) ?_
  refine lv_iload hx hb dX0_cut_7 (lv_at hl 5 rfl) ?_
  refine vx_callv (vx_runS (As := [.int x0, .int y0]) (rest := []) ⟨hx, hb, hml, hown, hts⟩ (c_X0_needCell l hst D x0 y0 ) (va_cwS 2 hts gX0_cut_X0_needCell rfl rfl rfl (by decide +kernel) ⟨Nat.le_trans (Nat.le_of_ble_eq_true rfl) hRf, Nat.le_trans (Nat.le_of_ble_eq_true rfl) hRl⟩) (pr_S (P_nil) hK [] rfl (hV0.at hS sub_id sub_id) EnvG_c) rfl rfl hl.1 rfl (lv_room (Nat.le_of_ble_eq_true rfl)) dX0_cut_9 ⟨Nat.le_trans (Nat.le_of_ble_eq_true rfl) hRc, Nat.le_trans (Nat.le_of_ble_eq_true rfl) hRs⟩) hS (fun _ _ h => h.elim) (fun _ h => h.elim) (fun _ _ h => h.elim) (fun E ce q9 _ t H1 locs ht hvm hpx hbx _ hk hS hce hcv hcl => ?_) (fun _ t H1 locs ht hvm hw_2 hB hz hk hS => ?_)
  · rw [← hQ]
    exact vx_out (fun x hx9 => (htab x hx9).elim) hlocks hce hcv hcl (fun t ht hal => ⟨(), trivial, Or.inl ⟨hbx.1, by unfold spCut; rw [inR_in hj (by omega), hbx.2]; rfl⟩, hS.F ht⟩) (fun z hz => (hS.2.2 z hz).elim) (by omega) (by omega)
  have hP := P_kept hP hk
  obtain ⟨x9, hx9, rfl⟩ := inR_t (by omega) hw_2.1
  obtain ⟨y9, hy9, rfl⟩ := inR_t (by omega) hw_2.2
  refine lv_iload_n hx hb dX0_cut_12 rfl (lv_at hl 2 rfl) ?_
  refine vx_callv (vx_runS (As := [.int k0]) (rest := []) ⟨hx, hb, hml, hown, hts⟩ (c_X0_needKind l hst D k0 ) (va_cwS 1 hts gX0_cut_X0_needKind rfl rfl rfl (by decide +kernel) ⟨Nat.le_trans (Nat.le_of_ble_eq_true rfl) hRf, Nat.le_trans (Nat.le_of_ble_eq_true rfl) hRl⟩) (pr_S (P_nil) hK [] rfl (hV0.at hS sub_id sub_id) EnvG_c) rfl rfl hl.1 rfl (lv_room (Nat.le_of_ble_eq_true rfl)) dX0_cut_13 ⟨Nat.le_trans (Nat.le_of_ble_eq_true rfl) hRc, Nat.le_trans (Nat.le_of_ble_eq_true rfl) hRs⟩) hS (fun _ _ h => h.elim) (fun _ h => h.elim) (fun _ _ h => h.elim) (fun E ce q9 _ t H1 locs ht hvm hpx hbx _ hk hS hce hcv hcl => ?_) (fun _ t H1 locs ht hvm hw_3 hB hz hk hS => ?_)
  · rw [← hQ]
    exact vx_out (fun x hx9 => (htab x hx9).elim) hlocks hce hcv hcl (fun t ht hal => ⟨(), trivial, Or.inr (Or.inl ⟨hbx.1, by unfold spCut; rw [inR_in hj (by omega), inR_in hx9 (by omega), inR_in hy9 (by omega), hbx.2]; rfl⟩), hS.F ht⟩) (fun z hz => (hS.2.2 z hz).elim) (by omega) (by omega)
  have hP := P_kept hP hk
  obtain ⟨k9, hk9, rfl⟩ := inR_t (by omega) hw_3
  have hw9 := wd_le k9 tb
  have hh9 := hg_le k9 tb
  refine lv_aload_n hx hb dX0_cut_16 rfl (lv_at hl 0 rfl) ?_
  refine va_get (D := D) (ci := 0) (v := .ref (ad 3)) (C := RX0) (T := TX0) (N := 16) hx hb hts hiw hown hK hP 0 g_at0 rfl 3 (by decide) (hts (.fieldLink RX0 18 "GloveCutters" "skinCells" "[[I") (by decide +kernel)) (fun _ h9 => h9) rfl dX0_cut_17 ?_
  refine lv_iload_n hx hb dX0_cut_20 rfl (lv_at hl 1 rfl) ?_
  refine nv_aald hx hb hK hP 3 2 g_at3 rfl (by omega) (by decide) (if_pos (by omega)) dX0_cut_21 ?_
  refine lv_astore (lv' := [(6, .ref (ad (14 + j))), (0, .ref (ad 0)), (1, .int (nI j)), (2, .int (nI k9)), (3, .int (bI tb)), (4, .int (nI x9)), (5, .int (nI y9))]) hx hb dX0_cut_22 hl (by decide) rfl (fun ls hl => ?_)
  refine lv_aload hx hb dX0_cut_24 (lv_at hl 0 rfl) ?_
  refine lv_iload_n hx hb dX0_cut_26 rfl (lv_at hl 3 rfl) ?_
  refine lv_iload_n hx hb dX0_cut_27 rfl (lv_at hl 4 rfl) ?_
  refine lv_iload hx hb dX0_cut_28 (lv_at hl 5 rfl) ?_
  refine lv_iload hx hb dX0_cut_30 (lv_at hl 6 rfl) ?_
  refine va_calli (va_runS (As := [.ref (ad (14 + j)), .int (nI k9), .int (bI tb), .int (nI x9), .int (nI y9)]) (rest := []) ⟨hx, hb, hml, hown, hts⟩ (c_X0_fits l D cI (ad (14 + j)) 96 (F (14 + j)) k9 tb x9 y9 (by omega) (by omega) (by omega) (by omega)) (va_cwS 5 hts gX0_cut_X0_fits rfl rfl rfl (by decide +kernel) ⟨Nat.le_trans (Nat.le_of_ble_eq_true rfl) hRf, Nat.le_trans (Nat.le_of_ble_eq_true rfl) hRl⟩) (pr_S (P_pick hP (k := (14 + j)) (g_atr (k := j) (by omega))) hK [0] rfl (hV0.at hS sub_id sub_id) EnvG_c) rfl rfl hl.1 rfl (lv_room (Nat.le_of_ble_eq_true rfl)) dX0_cut_32 ⟨Nat.le_trans (Nat.le_of_ble_eq_true rfl) hRc, Nat.le_trans (Nat.le_of_ble_eq_true rfl) hRs⟩) hS (fun _ _ h => h.elim) (fun _ h => h.elim) (fun r_4 _ t H1 locs ht hvm hw_4 hB hz hk hS => ?_)
  have hP := P_kept hP hk
  obtain rfl := hw_4
  refine nb_if_ne (tgt := 48) hx hb dX0_cut_35 (by decide) (fun c_5 => ?_) (fun c_5 => ?_)
  · refine lv_aload_n hx hb dX0_cut_48 rfl (lv_at hl 1 rfl) ?_
    refine va_get (D := D) (ci := 0) (v := .int (nI np)) (C := RX0) (T := TX0) (N := 16) hx hb hts hiw hown hK hP 0 g_at0 rfl 4 (by decide) (hts (.fieldLink RX0 107 "GloveCutters" "pieces" "I") (by decide +kernel)) (fun _ h9 => h9) rfl dX0_cut_49 ?_
    refine lv_sipush (v := nI 150) hx hb dX0_cut_52 (by decide) ?_
    refine nv_icmp_lt (tgt := 68) hx hb (by omega) (by omega) dX0_cut_55 (by decide) (fun c_6 => ?_) (fun c_6 => ?_)
    · have hft : x9 + wd k9 tb ≤ 12 ∧ y9 + hg k9 tb ≤ 8 := by (have hq9 := c_5; unfold fitB at hq9; simp only [Bool.and_eq_true, decide_eq_true_eq] at hq9; omega)
      refine lv_iload_n hx hb dX0_cut_68 rfl (lv_at hl 3 rfl) ?_
      refine lv_iload_n hx hb dX0_cut_69 rfl (lv_at hl 4 rfl) ?_
      refine va_calli (va_runS (As := [.int (nI k9), .int (bI tb)]) (rest := []) ⟨hx, hb, hml, hown, hts⟩ (c_X0_wideOf l D k9 tb (by omega)) (va_cwS 2 hts gX0_cut_X0_wideOf rfl rfl rfl (by decide +kernel) ⟨Nat.le_trans (Nat.le_of_ble_eq_true rfl) hRf, Nat.le_trans (Nat.le_of_ble_eq_true rfl) hRl⟩) (pr_S (P_nil) hK [] rfl (hV0.at hS sub_id sub_id) EnvG_c) rfl rfl hl.1 rfl (lv_room (Nat.le_of_ble_eq_true rfl)) dX0_cut_70 ⟨Nat.le_trans (Nat.le_of_ble_eq_true rfl) hRc, Nat.le_trans (Nat.le_of_ble_eq_true rfl) hRs⟩) hS (fun _ _ h => h.elim) (fun _ h => h.elim) (fun r_7 _ t H1 locs ht hvm hw_7 hB hz hk hS => ?_)
      have hP := P_kept hP hk
      obtain rfl := hw_7
      refine lv_istore (lv' := [(7, .int (nI (wd k9 tb))), (6, .ref (ad (14 + j))), (0, .ref (ad 0)), (1, .int (nI j)), (2, .int (nI k9)), (3, .int (bI tb)), (4, .int (nI x9)), (5, .int (nI y9))]) hx hb dX0_cut_73 hl (by decide) rfl (fun ls hl => ?_)
      refine lv_iload_n hx hb dX0_cut_75 rfl (lv_at hl 4 rfl) ?_
      refine lv_iload_n hx hb dX0_cut_76 rfl (lv_at hl 5 rfl) ?_
      refine va_calli (va_runS (As := [.int (nI k9), .int (bI tb)]) (rest := []) ⟨hx, hb, hml, hown, hts⟩ (c_X0_highOf l D k9 tb (by omega)) (va_cwS 2 hts gX0_cut_X0_highOf rfl rfl rfl (by decide +kernel) ⟨Nat.le_trans (Nat.le_of_ble_eq_true rfl) hRf, Nat.le_trans (Nat.le_of_ble_eq_true rfl) hRl⟩) (pr_S (P_nil) hK [] rfl (hV0.at hS sub_id sub_id) EnvG_c) rfl rfl hl.1 rfl (lv_room (Nat.le_of_ble_eq_true rfl)) dX0_cut_77 ⟨Nat.le_trans (Nat.le_of_ble_eq_true rfl) hRc, Nat.le_trans (Nat.le_of_ble_eq_true rfl) hRs⟩) hS (fun _ _ h => h.elim) (fun _ h => h.elim) (fun r_8 _ t H1 locs ht hvm hw_8 hB hz hk hS => ?_)
      have hP := P_kept hP hk
      obtain rfl := hw_8
      refine lv_istore (lv' := [(8, .int (nI (hg k9 tb))), (7, .int (nI (wd k9 tb))), (6, .ref (ad (14 + j))), (0, .ref (ad 0)), (1, .int (nI j)), (2, .int (nI k9)), (3, .int (bI tb)), (4, .int (nI x9)), (5, .int (nI y9))]) hx hb dX0_cut_80 hl (by decide) rfl (fun ls hl => ?_)
      refine lv_aload_n hx hb dX0_cut_82 rfl (lv_at hl 3 rfl) ?_
      refine va_get (D := D) (ci := 0) (v := .ref (ad 4)) (C := RX0) (T := TX0) (N := 16) hx hb hts hiw hown hK hP 0 g_at0 rfl 5 (by decide) (hts (.fieldLink RX0 21 "GloveCutters" "pieceSkin" "[I") (by decide +kernel)) (fun _ h9 => h9) rfl dX0_cut_83 ?_
      refine lv_aload_n hx hb dX0_cut_86 rfl (lv_at hl 3 rfl) ?_
      refine va_get (D := D) (ci := 0) (v := .int (nI np)) (C := RX0) (T := TX0) (N := 16) hx hb hts hiw hown hK hP 0 g_at0 rfl 4 (by decide) (hts (.fieldLink RX0 107 "GloveCutters" "pieces" "I") (by decide +kernel)) (fun _ h9 => h9) rfl dX0_cut_87 ?_
      refine lv_iload_n hx hb dX0_cut_90 rfl (lv_at hl 4 rfl) ?_
      have hS : va_S (inA ad 23) s.heap _ _ := S_mono hS
      refine nv_iast hx hb hK hP hD hS 4 0 g_at4 rfl (by omega) (by omega) dX0_cut_91 (fun H locs hP hD hS => ?_)
      rw [g_set4] at hP hD
      obtain ⟨F_9, eF_9⟩ : ∃ z, z = va_up F 4 (upd (F 4) np (nI j)) := ⟨_, rfl⟩
      rw [← eF_9] at hP hD
      refine lv_aload_n hx hb dX0_cut_92 rfl (lv_at hl 3 rfl) ?_
      refine va_get (D := D) (ci := 0) (v := .ref (ad 5)) (C := RX0) (T := TX0) (N := 16) hx hb hts hiw hown hK hP 0 g_at0 rfl 6 (by decide) (hts (.fieldLink RX0 24 "GloveCutters" "pieceKind" "[I") (by decide +kernel)) (fun _ h9 => h9) rfl dX0_cut_93 ?_
      refine lv_aload_n hx hb dX0_cut_96 rfl (lv_at hl 3 rfl) ?_
      refine va_get (D := D) (ci := 0) (v := .int (nI np)) (C := RX0) (T := TX0) (N := 16) hx hb hts hiw hown hK hP 0 g_at0 rfl 4 (by decide) (hts (.fieldLink RX0 107 "GloveCutters" "pieces" "I") (by decide +kernel)) (fun _ h9 => h9) rfl dX0_cut_97 ?_
      refine lv_iload_n hx hb dX0_cut_100 rfl (lv_at hl 5 rfl) ?_
      refine nv_iast hx hb hK hP hD hS 5 0 g_at5 rfl (by omega) (by omega) dX0_cut_101 (fun H locs hP hD hS => ?_)
      rw [g_set5] at hP hD
      obtain ⟨F_10, eF_10⟩ : ∃ z, z = va_up F_9 5 (upd (F_9 5) np (nI k9)) := ⟨_, rfl⟩
      rw [← eF_10] at hP hD
      refine lv_aload_n hx hb dX0_cut_102 rfl (lv_at hl 3 rfl) ?_
      refine va_get (D := D) (ci := 0) (v := .ref (ad 6)) (C := RX0) (T := TX0) (N := 16) hx hb hts hiw hown hK hP 0 g_at0 rfl 7 (by decide) (hts (.fieldLink RX0 27 "GloveCutters" "pieceWhere" "[I") (by decide +kernel)) (fun _ h9 => h9) rfl dX0_cut_103 ?_
      refine lv_aload_n hx hb dX0_cut_106 rfl (lv_at hl 3 rfl) ?_
      refine va_get (D := D) (ci := 0) (v := .int (nI np)) (C := RX0) (T := TX0) (N := 16) hx hb hts hiw hown hK hP 0 g_at0 rfl 4 (by decide) (hts (.fieldLink RX0 107 "GloveCutters" "pieces" "I") (by decide +kernel)) (fun _ h9 => h9) rfl dX0_cut_107 ?_
      refine lv_iconst (v := -1) hx hb dX0_cut_110 (by decide) ?_
      refine nv_iast hx hb hK hP hD hS 6 0 g_at6 rfl (by omega) (by omega) dX0_cut_111 (fun H locs hP hD hS => ?_)
      rw [g_set6] at hP hD
      obtain ⟨F_11, eF_11⟩ : ∃ z, z = va_up F_10 6 (upd (F_10 6) np (-1)) := ⟨_, rfl⟩
      rw [← eF_11] at hP hD
      refine lv_aload_n hx hb dX0_cut_112 rfl (lv_at hl 3 rfl) ?_
      refine va_get (D := D) (ci := 0) (v := .ref (ad 7)) (C := RX0) (T := TX0) (N := 16) hx hb hts hiw hown hK hP 0 g_at0 rfl 8 (by decide) (hts (.fieldLink RX0 30 "GloveCutters" "pieceThin" "[I") (by decide +kernel)) (fun _ h9 => h9) rfl dX0_cut_113 ?_
      refine lv_aload_n hx hb dX0_cut_116 rfl (lv_at hl 3 rfl) ?_
      refine va_get (D := D) (ci := 0) (v := .int (nI np)) (C := RX0) (T := TX0) (N := 16) hx hb hts hiw hown hK hP 0 g_at0 rfl 4 (by decide) (hts (.fieldLink RX0 107 "GloveCutters" "pieces" "I") (by decide +kernel)) (fun _ h9 => h9) rfl dX0_cut_117 ?_
      refine lv_aload hx hb dX0_cut_120 (lv_at hl 2 rfl) ?_
      refine lv_iload hx hb dX0_cut_122 (lv_at hl 7 rfl) ?_
      refine lv_iload hx hb dX0_cut_124 (lv_at hl 8 rfl) ?_
      refine lv_iload hx hb dX0_cut_126 (lv_at hl 1 rfl) ?_
      refine lv_iload hx hb dX0_cut_128 (lv_at hl 0 rfl) ?_
      refine lv_iconst (v := nI 1) hx hb dX0_cut_130 (by decide) ?_
      refine va_calli (va_runS (As := [.ref (ad (14 + j)), .int (nI x9), .int (nI y9), .int (nI (wd k9 tb)), .int (nI (hg k9 tb)), .int (nI 1)]) (rest := [.int (nI np), .ref (ad 7)]) ⟨hx, hb, hml, hown, hts⟩ (c_X0_tally l D cI (ad (14 + j)) 96 (F_11 (14 + j)) x9 y9 (wd k9 tb) (hg k9 tb) (nI 1) (by omega) (by omega) (by omega)) (va_cwS 6 hts gX0_cut_X0_tally rfl rfl rfl (by decide +kernel) ⟨Nat.le_trans (Nat.le_of_ble_eq_true rfl) hRf, Nat.le_trans (Nat.le_of_ble_eq_true rfl) hRl⟩) (pr_S (P_pick hP (k := (14 + j)) (g_atr (k := j) (by omega))) hK [0] rfl V0_at V0_c) rfl rfl hl.1 rfl (lv_room (Nat.le_of_ble_eq_true rfl)) dX0_cut_131 ⟨Nat.le_trans (Nat.le_of_ble_eq_true rfl) hRc, Nat.le_trans (Nat.le_of_ble_eq_true rfl) hRs⟩) hS (fun _ _ h => h.elim) (fun _ h => h.elim) (fun r_12 _ t H1 locs ht hvm hw_12 hB hz hk hS => ?_)
      have hP := P_kept hP hk
      obtain rfl := hw_12
      have eR1 : F_11 (14 + j) = F (14 + j) := by rw [eF_11, va_up_ne _ _ (by omega), eF_10, va_up_ne _ _ (by omega), eF_9, va_up_ne _ _ (by omega)]
      rw [eR1]
      refine nv_iast hx hb hK hP hD hS 7 0 g_at7 rfl (by omega) (by omega) dX0_cut_134 (fun H locs hP hD hS => ?_)
      rw [g_set7] at hP hD
      obtain ⟨F_13, eF_13⟩ : ∃ z, z = va_up F_11 7 (upd (F_11 7) np (nI (ct (F (14 + j)) (12 * y9 + x9) (wd k9 tb) (nI 1) ((wd k9 tb) * (hg k9 tb))))) := ⟨_, rfl⟩
      rw [← eF_13] at hP hD
      refine lv_aload hx hb dX0_cut_135 (lv_at hl 2 rfl) ?_
      refine lv_iload hx hb dX0_cut_137 (lv_at hl 7 rfl) ?_
      refine lv_iload hx hb dX0_cut_139 (lv_at hl 8 rfl) ?_
      refine lv_iload hx hb dX0_cut_141 (lv_at hl 1 rfl) ?_
      refine lv_iload hx hb dX0_cut_143 (lv_at hl 0 rfl) ?_
      refine lv_iconst (v := nI 3) hx hb dX0_cut_145 (by decide) ?_
      refine va_callv (va_runS (As := [.ref (ad (14 + j)), .int (nI x9), .int (nI y9), .int (nI (wd k9 tb)), .int (nI (hg k9 tb)), .int (nI 3)]) (rest := []) ⟨hx, hb, hml, hown, hts⟩ (c_X0_paint l D cI (ad (14 + j)) 96 (F_13 (14 + j)) x9 y9 (wd k9 tb) (hg k9 tb) (nI 3) (by omega) (by omega) (by omega)) (va_cwS 6 hts gX0_cut_X0_paint rfl rfl rfl (by decide +kernel) ⟨Nat.le_trans (Nat.le_of_ble_eq_true rfl) hRf, Nat.le_trans (Nat.le_of_ble_eq_true rfl) hRl⟩) (pr_S (P_pick hP (k := (14 + j)) (g_atr (k := j) (by omega))) hK [0] rfl V0_at V0_c) rfl rfl hl.1 rfl (lv_room (Nat.le_of_ble_eq_true rfl)) dX0_cut_146 ⟨Nat.le_trans (Nat.le_of_ble_eq_true rfl) hRc, Nat.le_trans (Nat.le_of_ble_eq_true rfl) hRs⟩) hS (fun q _ h => ⟨(14 + j), by omega, h⟩) (fun q h => ⟨(14 + j), by omega, h⟩) (fun _ t H1 locs ht hvm hw_14 hB hz hk hS => ?_)
      rw [ht] at hB
      have hP := P_put hP hD (g_atr (k := j) (by omega)) hk hB
      rw [g_setr (by omega)] at hP
      obtain ⟨F_15, eF_15⟩ : ∃ z, z = va_up F_13 (14 + j) (fl (F_13 (14 + j)) (12 * y9 + x9) (wd k9 tb) (nI 3) ((wd k9 tb) * (hg k9 tb))) := ⟨_, rfl⟩
      rw [← eF_15] at hP
      have hD : va_D (inA ad 23) (wG cI cZ cO ad n np nq F_15) := g_D hinj
      have eR2 : F_13 (14 + j) = F (14 + j) := by rw [eF_13, va_up_ne _ _ (by omega)]; exact eR1
      rw [eR2] at eF_15
      have eR3 : F_15 2 = F 2 := by rw [eF_15, va_up_ne _ _ (by omega), eF_13, va_up_ne _ _ (by omega), eF_11, va_up_ne _ _ (by omega), eF_10, va_up_ne _ _ (by omega), eF_9, va_up_ne _ _ (by omega)]
      refine lv_aload_n hx hb dX0_cut_149 rfl (lv_at hl 3 rfl) ?_
      refine va_get (D := D) (ci := 0) (v := .ref (ad 2)) (C := RX0) (T := TX0) (N := 16) hx hb hts hiw hown hK hP 0 g_at0 rfl 2 (by decide) (hts (.fieldLink RX0 13 "GloveCutters" "skinPieces" "[I") (by decide +kernel)) (fun _ h9 => h9) rfl dX0_cut_150 ?_
      refine lv_iload_n hx hb dX0_cut_153 rfl (lv_at hl 4 rfl) ?_
      refine lv_dup2_11 hx hb dX0_cut_154 rfl rfl ?_
      refine nv_iald hx hb hK hP 2 0 g_at2 rfl (by omega) (by omega) dX0_cut_155 ?_
      refine lv_iconst (v := nI 1) hx hb dX0_cut_156 (by decide) ?_
      refine lv_iadd hx hb dX0_cut_157 ?_
      refine nv_iast hx hb hK hP hD hS 2 0 g_at2 rfl (by omega) (by omega) dX0_cut_158 (fun H locs hP hD hS => ?_)
      rw [g_set2] at hP hD
      obtain ⟨F_16, eF_16⟩ : ∃ z, z = va_up F_15 2 (upd (F_15 2) j ((F_15 2 j) + (nI 1))) := ⟨_, rfl⟩
      rw [← eF_16] at hP hD
      refine lv_aload_n hx hb dX0_cut_159 rfl (lv_at hl 3 rfl) ?_
      refine lv_dup hx hb dX0_cut_160 rfl ?_
      refine va_get (D := D) (ci := 0) (v := .int (nI np)) (C := RX0) (T := TX0) (N := 16) hx hb hts hiw hown hK hP 0 g_at0 rfl 4 (by decide) (hts (.fieldLink RX0 107 "GloveCutters" "pieces" "I") (by decide +kernel)) (fun _ h9 => h9) rfl dX0_cut_161 ?_
      refine lv_iconst (v := nI 1) hx hb dX0_cut_164 (by decide) ?_
      refine nv_iadd hx hb dX0_cut_165 ?_
      refine va_put (D := D) (ci := 0) (v := .int (nI (np + 1))) (ty := .int) (C := RX0) (T := TX0) (N := 16) hx hb hts hiw tyX0 tyX0_ok nmX0 hown hK hP hD hS 0 g_at0 rfl 4 (by decide) (hts (.fieldLink RX0 107 "GloveCutters" "pieces" "I") (by decide +kernel)) (fun _ h9 => h9) rfl (by decide +kernel) rfl rfl (Nat.le_of_ble_eq_true rfl) dX0_cut_166 (fun H locs hP hD hS => ?_)
      have hP : va_P D vwCl (wG cI cZ cO ad n (np + 1) nq F_16) H := hP
      have hD : va_D (inA ad 23) (wG cI cZ cO ad n (np + 1) nq F_16) := hD
      refine lv_aload_n hx hb dX0_cut_169 rfl (lv_at hl 3 rfl) ?_
      refine va_get (D := D) (ci := 0) (v := .int (nI (np + 1))) (C := RX0) (T := TX0) (N := 16) hx hb hts hiw hown hK hP 0 g_at0 rfl 4 (by decide) (hts (.fieldLink RX0 107 "GloveCutters" "pieces" "I") (by decide +kernel)) (fun _ h9 => h9) rfl dX0_cut_170 ?_
      refine lv_iconst (v := nI 1) hx hb dX0_cut_173 (by decide) ?_
      refine nv_isub hx hb (by omega) dX0_cut_174 ?_
      rw [← hQ]
      refine vx_ret ?_
      refine W.widen (k := 5) (n := 30) (by omega) (by omega) ?_
      exact W.iret (v := nI ((np + 1) - 1)) hx hb hr (fun t ht hW => ⟨⟨nI ((np + 1) - 1), (), rfl, (by show spCut n np F (nI j) (nI k9) tb (nI x9) (nI y9) = (0, nI (np + 1 - 1)); rw [show np + 1 - 1 = np by omega, spCut_1 hn hj hx9 hy9 hk9, c_5, decide_eq_true c_6]; rfl), (by show va_P D vwCl (wG cI cZ cO ad n (np + 1) nq (stCut F np (nI j) (nI k9) tb (nI x9) (nI y9))) t.heap; rw [ht, stCut_n (by omega) hx9 hy9 hk9]; have e9 : F_16 = cutF F np j k9 tb (12 * y9 + x9) := (by rw [eF_16, eR3]; subst eF_15 eF_13 eF_11 eF_10 eF_9; rfl); rw [← e9]; exact hP)⟩, hS.F ht⟩) hS.2.2 dX0_cut_175
    · obtain ⟨sa9, hsa9⟩ := hV0.2.2.2.2.2.1.2.2.2.2.2.2.2.2.2.2.1
      rw [← hQ]
      exact vx_throwS (names := ["java/lang/RuntimeException", "java/lang/Exception"]) hx hb hst hown (by decide +kernel) (by decide +kernel) (hts (.classLink RX0 60 "java/lang/IllegalStateException") (by decide +kernel)) (hts (.initialized "java/lang/IllegalStateException") (by decide +kernel)) hsa9 (at_S (fun w h9 => hts w ((fun _ h => List.mem_cons_of_mem _ (List.mem_append_left _ (List.mem_append_left _ (List.mem_append_right _ h)))) w h9)) hV0.2.2.2.2.2.2) gd_S hV0.2.2.2.2.1.1 hV0.2.2.2.2.1.2 hS (hl.1.trans hml.symm) dX0_cut_58 dX0_cut_61 dX0_cut_62 dX0_cut_64 dX0_cut_67 (fun x hx9 => (htab x hx9).elim) (Nat.lt_of_lt_of_le (Nat.le_of_ble_eq_true rfl) hRf) (Nat.le_trans (Nat.le_of_ble_eq_true rfl) hRl) (Nat.le_trans (Nat.le_of_ble_eq_true rfl) hRc) (Nat.le_trans (Nat.le_of_ble_eq_true rfl) hRs) hlocks (fun t9 _ hs9 hq9 => x_thr hS trivial (Or.inr (Or.inr ⟨rfl, by rw [spCut_1 hn hj hx9 hy9 hk9, decide_eq_false (show ¬ np < 150 by omega), Bool.and_false]; rfl⟩)) hs9 hq9) (fun z hz => (hS.2.2 z hz).elim) (by omega) (by omega)
  · obtain ⟨sa9, hsa9⟩ := hV0.2.2.2.2.2.1.2.2.2.2.2.2.2.2.2.1
    rw [← hQ]
    exact vx_throwS (names := ["java/lang/RuntimeException", "java/lang/Exception"]) hx hb hst hown (by decide +kernel) (by decide +kernel) (hts (.classLink RX0 60 "java/lang/IllegalStateException") (by decide +kernel)) (hts (.initialized "java/lang/IllegalStateException") (by decide +kernel)) hsa9 (at_S (fun w h9 => hts w ((fun _ h => List.mem_cons_of_mem _ (List.mem_append_left _ (List.mem_append_left _ (List.mem_append_right _ h)))) w h9)) hV0.2.2.2.2.2.2) gd_S hV0.2.2.2.2.1.1 hV0.2.2.2.2.1.2 hS (hl.1.trans hml.symm) dX0_cut_38 dX0_cut_41 dX0_cut_42 dX0_cut_44 dX0_cut_47 (fun x hx9 => (htab x hx9).elim) (Nat.lt_of_lt_of_le (Nat.le_of_ble_eq_true rfl) hRf) (Nat.le_trans (Nat.le_of_ble_eq_true rfl) hRl) (Nat.le_trans (Nat.le_of_ble_eq_true rfl) hRc) (Nat.le_trans (Nat.le_of_ble_eq_true rfl) hRs) hlocks (fun t9 _ hs9 hq9 => x_thr hS trivial (Or.inr (Or.inr ⟨rfl, by rw [spCut_1 hn hj hx9 hy9 hk9, c_5]; rfl⟩)) hs9 hq9) (fun z hz => (hS.2.2 z hz).elim) (by omega) (by omega)
set_option maxHeartbeats 4000000 in
set_option maxRecDepth 100000 in
/-- rip -/
theorem c_X0_rip (l : Launch) (hst : l.stackTraces = false) (D : va_G) (cI cZ cO : ClassId) (ad : Nat → Nat) (n np nq : Nat) (F : Nat → Nat → Int32) (q0 : Int32) (hinj : inj ad 23) (hnp : np ≤ 150) (hnq : nq ≤ 20) : vx_Met l yX0_rip wsX0_rip ({ frames := 7, cells := 2, slots := 12, locals := 103 } : Room) (va_Pc [.ref (ad 0), .int q0] (Pr D (gT cI cZ cO) (wG cI cZ cO ad n np nq F) (EnvG (inA ad 23)))) (va_Qi (S := Unit) (fun (r : Int32) (_ : Unit) => spRip np nq F q0 = (0, r)) (fun (_ : Unit) (t : State) => va_P D vwCl (wG cI cZ cO ad n np nq (ripF F np (cl q0))) t.heap) (inA ad 23)) (vx_X (S := Unit) (fun _ => True) (fun E (_ : Unit) (_ : State) => (E = nX ∧ spRip np nq F q0 = (1, 0)) ∨ (E = nS ∧ spRip np nq F q0 = (2, 0))) (fun _ => False)) 2 12 (inA ad 23) := by
  refine vx_ofW (cc := cX0_rip) (maxL := 5) (ret := (some .int)) (by decide) rfl ?_
  intro p e s m args below meth c s₁ B hml htab hv
  obtain ⟨hargs, hP, hK, hV⟩ := hv
  have hx := B.exec
  have hb := B.bytes
  have hr := B.returns
  have hts := atoms_spec (ws := wsX0_rip) B.pre
  have hown : s.vm.findClass RX0 = some m.cls := findClass_of_methodNamed B.named
  have hlocks := B.notSynchronized
  have hS : va_S (fun _ => False) s.heap s.heap [] := va_S.rf
  have hV0 : EnvG (fun _ => False) s := EnvG.nar hV sub_no
  have hiw : ∀ w ∈ wsX00, w ∈ wsX0_rip := (fun _ h => List.mem_cons_of_mem _ (List.mem_append_left _ (List.mem_append_left _ (List.mem_append_right _ h))))
  have hRf : 7 ≤ (headSpec wsX0_rip ({ frames := 7, cells := 2, slots := 12, locals := 103 } : Room)).room.frames := Nat.le_refl _
  have hRl : 103 ≤ (headSpec wsX0_rip ({ frames := 7, cells := 2, slots := 12, locals := 103 } : Room)).room.locals := Nat.le_refl _
  have hRc : 2 ≤ (headSpec wsX0_rip ({ frames := 7, cells := 2, slots := 12, locals := 103 } : Room)).room.cells := Nat.le_refl _
  have hRs : 12 ≤ (headSpec wsX0_rip ({ frames := 7, cells := 2, slots := 12, locals := 103 } : Room)).room.slots := Nat.le_refl _
  generalize (headSpec wsX0_rip ({ frames := 7, cells := 2, slots := 12, locals := 103 } : Room)).room = R at hRf hRl hRc hRs ⊢
  have hl := lv_entry [.ref (ad 0), .int q0] (n := 5) (Nat.le_of_ble_eq_true rfl)
  refine W.eq (show entryFrame m args 5 = _ from by rw [hargs, lg_entry_eq]) ?_
  generalize (lg_sl [.ref (ad 0), .int q0] ++ List.replicate (5 - (lg_sl [.ref (ad 0), .int q0]).length) Slot.unset).toArray = ls at hl ⊢
  have hl : lv_has ls 5 [(0, .ref (ad 0)), (1, .int q0)] := hl
  have hD : va_D (inA ad 23) (wG cI cZ cO ad n np nq F) := g_D hinj
  generalize hQ : vx_MQ _ _ _ _ _ _ _ _ = Q
  refine lv_aload_n hx hb dX0_rip_0 rfl (lv_at hl 0 rfl) ?_
  refine lv_iload_n hx hb dX0_rip_1 rfl (lv_at hl 1 rfl) ?_
  refine vx_callv (vx_runV (As := [.int q0]) (rest := []) ⟨hx, hb, hml, hown, hts⟩ (c_X0_needPair l hst D cI cZ cO ad n np nq F q0 (by omega)) (cwV 1 hts gX0_rip_X0_needPair rfl rfl rfl (by decide +kernel) ⟨Nat.le_trans (Nat.le_of_ble_eq_true rfl) hRf, Nat.le_trans (Nat.le_of_ble_eq_true rfl) hRl⟩) (pr_V hP (ci := 0) (q0 := 0) rfl g_at0 rfl hP hK [0, 1, 2] rfl (hV0.at hS sub_id sub_id) EnvG_c) rfl rfl hl.1 rfl (lv_room (Nat.le_of_ble_eq_true rfl)) dX0_rip_2 ⟨Nat.le_trans (Nat.le_of_ble_eq_true rfl) hRc, Nat.le_trans (Nat.le_of_ble_eq_true rfl) hRs⟩) hS (fun _ _ h => h.elim) (fun _ h => h.elim) (fun _ _ h => h.elim) (fun E ce q9 _ t H1 locs ht hvm hpx hbx _ hk hS hce hcv hcl => ?_) (fun _ t H1 locs ht hvm hw_1 hB hz hk hS => ?_)
  · rw [← hQ]
    exact vx_out (fun x hx9 => (htab x hx9).elim) hlocks hce hcv hcl (fun t ht hal => ⟨(), trivial, Or.inl ⟨hbx.1, by unfold spRip; rw [hbx.2]; rfl⟩, hS.F ht⟩) (fun z hz => (hS.2.2 z hz).elim) (by omega) (by omega)
  have hP := P_kept hP hk
  obtain ⟨j, hj, rfl⟩ := inR_t (by omega) hw_1
  refine lv_aload_n hx hb dX0_rip_5 rfl (lv_at hl 0 rfl) ?_
  refine va_get (D := D) (ci := 0) (v := .ref (ad 12)) (C := RX0) (T := TX0) (N := 16) hx hb hts hiw hown hK hP 0 g_at0 rfl 14 (by decide) (hts (.fieldLink RX0 45 "GloveCutters" "pairRipped" "[Z") (by decide +kernel)) (fun _ h9 => h9) rfl dX0_rip_6 ?_
  refine lv_iload_n hx hb dX0_rip_9 rfl (lv_at hl 1 rfl) ?_
  refine nv_zald hx hb hK hP 12 1 g_at12 rfl (by omega) (by decide) dX0_rip_10 ?_
  refine lv_if_eq (tgt := 24) hx hb dX0_rip_11 (by decide) (fun c_2 => ?_) (fun c_2 => ?_)
  · refine lv_aload_n hx hb dX0_rip_24 rfl (lv_at hl 0 rfl) ?_
    refine va_get (D := D) (ci := 0) (v := .ref (ad 12)) (C := RX0) (T := TX0) (N := 16) hx hb hts hiw hown hK hP 0 g_at0 rfl 14 (by decide) (hts (.fieldLink RX0 45 "GloveCutters" "pairRipped" "[Z") (by decide +kernel)) (fun _ h9 => h9) rfl dX0_rip_25 ?_
    refine lv_iload_n hx hb dX0_rip_28 rfl (lv_at hl 1 rfl) ?_
    refine lv_iconst (v := nI 1) hx hb dX0_rip_29 (by decide) ?_
    have hS : va_S (inA ad 23) s.heap _ _ := S_mono hS
    refine nv_zast hx hb hK hP hD hS 12 1 g_at12 rfl (by omega) (by decide) (by decide) dX0_rip_30 (fun H locs hP hD hS => ?_)
    rw [g_set12] at hP hD
    obtain ⟨F_3, eF_3⟩ : ∃ z, z = va_up F 12 (upd (F 12) j (nI 1)) := ⟨_, rfl⟩
    rw [← eF_3] at hP hD
    have eF_b := eF_3
    refine lv_iconst (v := nI 0) hx hb dX0_rip_31 (by decide) ?_
    refine lv_istore_n (lv' := [(2, .int (nI 0)), (0, .ref (ad 0)), (1, .int (nI j))]) hx hb dX0_rip_32 rfl hl (by decide) rfl (fun ls hl => ?_)
    refine lv_iconst (v := nI 0) hx hb dX0_rip_33 (by decide) ?_
    refine lv_istore_n (lv' := [(3, .int (nI 0)), (2, .int (nI 0)), (0, .ref (ad 0)), (1, .int (nI j))]) hx hb dX0_rip_34 rfl hl (by decide) rfl (fun ls hl => ?_)
    have L35 : ∀ (fu : Nat) (k : Nat) (i : Nat) (G : Nat → Nat → Int32) (H : Heap) (locs : List Loc) (ls : Array Slot), np - i < fu → (i ≤ np) → (k = rpc (F 5) (nI j) (F 6) i) → (k ≤ i) → (G = va_up (va_up F 12 (upd (F 12) j (nI 1))) 6 (rp (F 5) (nI j) (F 6) i)) → va_P D vwCl (wG cI cZ cO ad n np nq G) H → va_D (inA ad 23) (wG cI cZ cO ad n np nq G) → va_S (inA ad 23) s.heap H locs → lv_has ls 5 [(0, .ref (ad 0)), (1, .int (nI j)), (2, .int (nI k)), (3, .int (nI i))] → W p l e R s m args below meth c H locs 1 6 Q (F0 m 35 ls []) := by
      intro fu
      induction fu with
      | zero => intro _ _ _ _ _ _ h; exact absurd h (Nat.not_lt_zero _)
      | succ fu ih35 =>
        intro k i G H locs ls hm35 h1 h2 h3 hG hP hD hS hl
        refine lv_iload_n hx hb dX0_rip_35 rfl (lv_at hl 3 rfl) ?_
        refine lv_aload_n hx hb dX0_rip_36 rfl (lv_at hl 0 rfl) ?_
        refine va_get (D := D) (ci := 0) (v := .int (nI np)) (C := RX0) (T := TX0) (N := 16) hx hb hts hiw hown hK hP 0 g_at0 rfl 4 (by decide) (hts (.fieldLink RX0 107 "GloveCutters" "pieces" "I") (by decide +kernel)) (fun _ h9 => h9) rfl dX0_rip_37 ?_
        refine nv_icmp_ge (tgt := 106) hx hb (by omega) (by omega) dX0_rip_40 (by decide) (fun c_4 => ?_) (fun c_4 => ?_)
        · refine lv_iload_n hx hb dX0_rip_106 rfl (lv_at hl 2 rfl) ?_
          rw [← hQ]
          refine vx_ret ?_
          refine W.widen (k := 2) (n := 12) (by omega) (by omega) ?_
          exact W.iret (v := nI k) hx hb hr (fun t ht hW => ⟨⟨nI k, (), rfl, (by show spRip np nq F (nI j) = _; rw [spRip_1 hnq hj, beq_t c_2, h2, show i = np by omega]; rfl), (by show va_P D vwCl (wG cI cZ cO ad n np nq (ripF F np (cl (nI j)))) t.heap; rw [ht, cl_n (by omega)]; have e9 : G = ripF F np j := (by rw [hG, show i = np by omega]; rfl); rw [← e9]; exact hP)⟩, hS.F ht⟩) hS.2.2 dX0_rip_107
        · refine lv_aload_n hx hb dX0_rip_43 rfl (lv_at hl 0 rfl) ?_
          refine va_get (D := D) (ci := 0) (v := .ref (ad 6)) (C := RX0) (T := TX0) (N := 16) hx hb hts hiw hown hK hP 0 g_at0 rfl 7 (by decide) (hts (.fieldLink RX0 27 "GloveCutters" "pieceWhere" "[I") (by decide +kernel)) (fun _ h9 => h9) rfl dX0_rip_44 ?_
          refine lv_iload_n hx hb dX0_rip_47 rfl (lv_at hl 3 rfl) ?_
          refine nv_iald hx hb hK hP 6 0 g_at6 rfl (by omega) (by omega) dX0_rip_48 ?_
          refine lv_iload_n hx hb dX0_rip_49 rfl (lv_at hl 1 rfl) ?_
          refine lv_icmp_ne (tgt := 100) hx hb dX0_rip_50 (by decide) (fun c_5 => ?_) (fun c_5 => ?_)
          · refine lv_iinc (k := 3) (v := nI (i + 1)) (lv' := [(3, .int (nI (i + 1))), (0, .ref (ad 0)), (1, .int (nI j)), (2, .int (nI k))]) hx hb dX0_rip_100 hl rfl (nI_add i 1) (by decide) rfl (fun ls hl => ?_)
            refine lv_goto (tgt := 35) hx hb dX0_rip_103 (by decide) ?_
            exact ih35 k (i + 1) G _ _ _ (by omega) (by omega) (by rw [(rp_n (fun q9 => c_5 (by rw [hG, va_up_self]; exact q9))).2]; exact h2) (by omega) (by rw [(rp_n (fun q9 => c_5 (by rw [hG, va_up_self]; exact q9))).1]; exact hG) hP hD hS (lv_sub hl [1, 2, 3, 0] rfl)
          · refine lv_aload_n hx hb dX0_rip_53 rfl (lv_at hl 0 rfl) ?_
            refine va_get (D := D) (ci := 0) (v := .ref (ad 5)) (C := RX0) (T := TX0) (N := 16) hx hb hts hiw hown hK hP 0 g_at0 rfl 6 (by decide) (hts (.fieldLink RX0 24 "GloveCutters" "pieceKind" "[I") (by decide +kernel)) (fun _ h9 => h9) rfl dX0_rip_54 ?_
            refine lv_iload_n hx hb dX0_rip_57 rfl (lv_at hl 3 rfl) ?_
            refine nv_iald hx hb hK hP 5 0 g_at5 rfl (by omega) (by omega) dX0_rip_58 ?_
            refine lv_iconst (v := nI 2) hx hb dX0_rip_59 (by decide) ?_
            refine lv_icmp_ne (tgt := 67) hx hb dX0_rip_60 (by decide) (fun c_6 => ?_) (fun c_6 => ?_)
            · refine lv_iconst (v := nI 0) hx hb dX0_rip_67 (by decide) ?_
              refine lv_istore (lv' := [(4, .int (nI 0)), (0, .ref (ad 0)), (1, .int (nI j)), (2, .int (nI k)), (3, .int (nI i))]) hx hb dX0_rip_68 hl (by decide) rfl (fun ls hl => ?_)
              refine lv_aload_n hx hb dX0_rip_70 rfl (lv_at hl 1 rfl) ?_
              refine va_get (D := D) (ci := 0) (v := .ref (ad 6)) (C := RX0) (T := TX0) (N := 16) hx hb hts hiw hown hK hP 0 g_at0 rfl 7 (by decide) (hts (.fieldLink RX0 27 "GloveCutters" "pieceWhere" "[I") (by decide +kernel)) (fun _ h9 => h9) rfl dX0_rip_71 ?_
              refine lv_iload_n hx hb dX0_rip_74 rfl (lv_at hl 4 rfl) ?_
              refine lv_iload hx hb dX0_rip_75 (lv_at hl 0 rfl) ?_
              refine nv_if_eq (tgt := 85) hx hb (by omega) dX0_rip_77 (by decide) (fun _ => ?_) (fun h9 => absurd h9 (by decide))
              refine lv_iconst (v := -1) hx hb dX0_rip_85 (by decide) ?_
              refine nv_iast hx hb hK hP hD hS 6 0 g_at6 rfl (by omega) (by omega) dX0_rip_86 (fun H locs hP hD hS => ?_)
              rw [g_set6] at hP hD
              obtain ⟨F_8, eF_8⟩ : ∃ z, z = va_up G 6 (upd (G 6) i (-1)) := ⟨_, rfl⟩
              rw [← eF_8] at hP hD
              refine lv_iload_n hx hb dX0_rip_87 rfl (lv_at hl 3 rfl) ?_
              refine lv_iload hx hb dX0_rip_88 (lv_at hl 0 rfl) ?_
              refine nv_if_eq (tgt := 97) hx hb (by omega) dX0_rip_90 (by decide) (fun _ => ?_) (fun h9 => absurd h9 (by decide))
              refine lv_iconst (v := nI 1) hx hb dX0_rip_97 (by decide) ?_
              refine nv_iadd hx hb dX0_rip_98 ?_
              refine lv_istore_n (lv' := [(2, .int (nI (k + 1))), (4, .int (nI 0)), (0, .ref (ad 0)), (1, .int (nI j)), (3, .int (nI i))]) hx hb dX0_rip_99 rfl hl (by decide) rfl (fun ls hl => ?_)
              refine lv_iinc (k := 4) (v := nI (i + 1)) (lv' := [(3, .int (nI (i + 1))), (2, .int (nI (k + 1))), (4, .int (nI 0)), (0, .ref (ad 0)), (1, .int (nI j))]) hx hb dX0_rip_100 hl rfl (nI_add i 1) (by decide) rfl (fun ls hl => ?_)
              refine lv_goto (tgt := 35) hx hb dX0_rip_103 (by decide) ?_
              exact ih35 (k + 1) (i + 1) F_8 _ _ _ (by omega) (by omega) (by rw [(rp_f (show rp (F 5) (nI j) (F 6) i i = nI j by have q9 := c_5; rw [hG, va_up_self] at q9; exact q9) (fun q9 => c_6 ((show G 5 i = F 5 i by rw [hG]; rfl).trans q9))).2, ← h2]) (by omega) (by rw [(rp_f (show rp (F 5) (nI j) (F 6) i i = nI j by have q9 := c_5; rw [hG, va_up_self] at q9; exact q9) (fun q9 => c_6 ((show G 5 i = F 5 i by rw [hG]; rfl).trans q9))).1, eF_8, hG, uu, va_up_self]) hP hD hS (lv_sub hl [3, 4, 1, 0] rfl)
            · refine lv_iconst (v := nI 1) hx hb dX0_rip_63 (by decide) ?_
              refine lv_goto (tgt := 68) hx hb dX0_rip_64 (by decide) ?_
              refine lv_istore (lv' := [(4, .int (nI 1)), (0, .ref (ad 0)), (1, .int (nI j)), (2, .int (nI k)), (3, .int (nI i))]) hx hb dX0_rip_68 hl (by decide) rfl (fun ls hl => ?_)
              refine lv_aload_n hx hb dX0_rip_70 rfl (lv_at hl 1 rfl) ?_
              refine va_get (D := D) (ci := 0) (v := .ref (ad 6)) (C := RX0) (T := TX0) (N := 16) hx hb hts hiw hown hK hP 0 g_at0 rfl 7 (by decide) (hts (.fieldLink RX0 27 "GloveCutters" "pieceWhere" "[I") (by decide +kernel)) (fun _ h9 => h9) rfl dX0_rip_71 ?_
              refine lv_iload_n hx hb dX0_rip_74 rfl (lv_at hl 4 rfl) ?_
              refine lv_iload hx hb dX0_rip_75 (lv_at hl 0 rfl) ?_
              refine nv_if_eq (tgt := 85) hx hb (by omega) dX0_rip_77 (by decide) (fun h9 => absurd h9 (by decide)) (fun _ => ?_)
              refine lv_bipush (v := -2) hx hb dX0_rip_80 (by decide) ?_
              refine lv_goto (tgt := 86) hx hb dX0_rip_82 (by decide) ?_
              refine nv_iast hx hb hK hP hD hS 6 0 g_at6 rfl (by omega) (by omega) dX0_rip_86 (fun H locs hP hD hS => ?_)
              rw [g_set6] at hP hD
              obtain ⟨F_11, eF_11⟩ : ∃ z, z = va_up G 6 (upd (G 6) i (-2)) := ⟨_, rfl⟩
              rw [← eF_11] at hP hD
              refine lv_iload_n hx hb dX0_rip_87 rfl (lv_at hl 3 rfl) ?_
              refine lv_iload hx hb dX0_rip_88 (lv_at hl 0 rfl) ?_
              refine nv_if_eq (tgt := 97) hx hb (by omega) dX0_rip_90 (by decide) (fun h9 => absurd h9 (by decide)) (fun _ => ?_)
              refine lv_iconst (v := nI 0) hx hb dX0_rip_93 (by decide) ?_
              refine lv_goto (tgt := 98) hx hb dX0_rip_94 (by decide) ?_
              refine nv_iadd hx hb dX0_rip_98 ?_
              refine lv_istore_n (lv' := [(2, .int (nI (k + 0))), (4, .int (nI 1)), (0, .ref (ad 0)), (1, .int (nI j)), (3, .int (nI i))]) hx hb dX0_rip_99 rfl hl (by decide) rfl (fun ls hl => ?_)
              refine lv_iinc (k := 4) (v := nI (i + 1)) (lv' := [(3, .int (nI (i + 1))), (2, .int (nI (k + 0))), (4, .int (nI 1)), (0, .ref (ad 0)), (1, .int (nI j))]) hx hb dX0_rip_100 hl rfl (nI_add i 1) (by decide) rfl (fun ls hl => ?_)
              refine lv_goto (tgt := 35) hx hb dX0_rip_103 (by decide) ?_
              exact ih35 (k + 0) (i + 1) F_11 _ _ _ (by omega) (by omega) (by rw [(rp_l (show rp (F 5) (nI j) (F 6) i i = nI j by have q9 := c_5; rw [hG, va_up_self] at q9; exact q9) ((show G 5 i = F 5 i by rw [hG]; rfl).symm.trans c_6)).2]; exact h2) (by omega) (by rw [(rp_l (show rp (F 5) (nI j) (F 6) i i = nI j by have q9 := c_5; rw [hG, va_up_self] at q9; exact q9) ((show G 5 i = F 5 i by rw [hG]; rfl).symm.trans c_6)).1, eF_11, hG, uu, va_up_self]) hP hD hS (lv_sub hl [3, 4, 1, 0] rfl)
    exact L35 _ 0 0 F_3 _ _ _ (Nat.lt_succ_self _) (by omega) rfl (by omega) (by rw [eF_3]; exact (va_up_id _ 6).symm) hP hD hS (lv_sub hl [2, 3, 1, 0] rfl)
  · obtain ⟨sa9, hsa9⟩ := hV0.2.2.2.2.2.1.2.2.2.2.2.2.2.2.2.2.2.2.2.2.2
    rw [← hQ]
    exact vx_throwS (names := ["java/lang/RuntimeException", "java/lang/Exception"]) hx hb hst hown (by decide +kernel) (by decide +kernel) (hts (.classLink RX0 60 "java/lang/IllegalStateException") (by decide +kernel)) (hts (.initialized "java/lang/IllegalStateException") (by decide +kernel)) hsa9 (at_S (fun w h9 => hts w ((fun _ h => List.mem_cons_of_mem _ (List.mem_append_left _ (List.mem_append_right _ h))) w h9)) hV0.2.2.2.2.2.2) gd_S hV0.2.2.2.2.1.1 hV0.2.2.2.2.1.2 hS (hl.1.trans hml.symm) dX0_rip_14 dX0_rip_17 dX0_rip_18 dX0_rip_20 dX0_rip_23 (fun x hx9 => (htab x hx9).elim) (Nat.lt_of_lt_of_le (Nat.le_of_ble_eq_true rfl) hRf) (Nat.le_trans (Nat.le_of_ble_eq_true rfl) hRl) (Nat.le_trans (Nat.le_of_ble_eq_true rfl) hRc) (Nat.le_trans (Nat.le_of_ble_eq_true rfl) hRs) hlocks (fun t9 _ hs9 hq9 => x_thr hS trivial (Or.inr ⟨rfl, by rw [spRip_1 hnq hj, beq_f c_2]; rfl⟩) hs9 hq9) (fun z hz => (hS.2.2 z hz).elim) (by omega) (by omega)
end
