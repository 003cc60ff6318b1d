/-! the reference: tranks, taking, the book, counting -/
theorem isF_T {F : Nat → Nat → Int32} {s p : Nat} (hs : s < 2 ^ 31) (h : F 4 p = nI s) : isF F (F 1 s) (nI 0) p = isT F s p := by
  unfold isF isT
  rw [h, nI_clamp hs, beq_t (rfl : F 1 s = F 1 s), beq_t (rfl : nI s = nI s)]
  rfl
theorem mxT_2 {F : Nat → Nat → Int32} {np : Nat} {c : Int32} : ∀ n, 2 ≤ mxT F np c n ↔ ∃ s, s < n ∧ tsB F np c s = true
  | 0 => ⟨fun h => absurd h (by rw [mxT]; decide), fun ⟨s, h, _⟩ => absurd h (Nat.not_lt_zero s)⟩
  | n + 1 => by
    have ih := mxT_2 (F := F) (np := np) (c := c) n
    by_cases hc : F 1 n = c
    · rw [mxT_t hc]
      constructor
      · intro h
        by_cases h1 : 2 ≤ mxT F np c n
        · obtain ⟨s, a, b⟩ := ih.mp h1
          exact ⟨s, by omega, b⟩
        · exact ⟨n, by omega, tsB_t hc (by omega)⟩
      · rintro ⟨s, a, b⟩
        rcases Nat.lt_or_ge s n with q | q
        · have := ih.mpr ⟨s, q, b⟩
          omega
        · have e : s = n := by omega
          subst e
          unfold tsB at b
          simp only [Bool.and_eq_true, decide_eq_true_eq] at b
          omega
    · rw [mxT_f hc]
      constructor
      · intro h
        obtain ⟨s, a, b⟩ := ih.mp h
        exact ⟨s, by omega, b⟩
      · rintro ⟨s, a, b⟩
        rcases Nat.lt_or_ge s n with q | q
        · exact ih.mpr ⟨s, q, b⟩
        · have e : s = n := by omega
          subst e
          rw [tsB_1 hc] at b
          cases b
theorem tsI_2 {F : Nat → Nat → Int32} {n np : Nat} {c : Int32} (hn : n ≤ 10) : ¬ tsI F n np c = -1 ↔ 2 ≤ mxT F np c n := by
  rw [mxT_2]
  unfold tsI
  rcases fI_spec (tsB F np c) (n - 0) 0 with ⟨h1, h2⟩ | ⟨j, h1, h2, h3, h4, -⟩
  · constructor
    · exact fun h => absurd h1 h
    · rintro ⟨s, a, b⟩
      rw [h2 s (Nat.zero_le s) (by omega)] at b
      cases b
  · constructor
    · exact fun _ => ⟨j, by omega, h4⟩
    · intro _ h
      rw [h3] at h
      exact absurd (show (0 : Int32) ≤ -1 by rw [← h]; exact nI_pos' (by omega)) (by decide)
def cQ (F : Nat → Nat → Int32) (n np : Nat) (c : Int32) : Nat → Bool | 0 => decide (¬ tsI F n np c = -1) | k + 1 => cQ F n np c k && decide (kP (k + 1) ≤ fC F np c (nI (k + 1)))
theorem cQ_S {F : Nat → Nat → Int32} {n np : Nat} {c : Int32} (hn : n ≤ 10) : cQ F n np c 3 = canS F n np c := by
  have h0 : lkN F n np c 0 = 0 ↔ ¬ tsI F n np c = -1 := by
    rw [tsI_2 hn]
    unfold lkN
    rw [if_pos rfl]
    show 2 - _ = 0 ↔ _
    omega
  have hk : ∀ k, 0 < k → (lkN F n np c k = 0 ↔ kP k ≤ fC F np c (nI k)) := by
    intro k h
    unfold lkN
    rw [if_neg (by omega)]
    omega
  have h1 := hk 1 (by decide)
  have h2 := hk 2 (by decide)
  have h3 := hk 3 (by decide)
  unfold canS cQ cQ cQ cQ
  apply Bool.eq_iff_iff.mpr
  simp only [Bool.and_eq_true, decide_eq_true_eq]
  rw [h0, h1, h2, h3]
  constructor
  · rintro ⟨⟨⟨a, b⟩, d⟩, e⟩
    exact ⟨a, b, d, e⟩
  · rintro ⟨a, b, d, e⟩
    exact ⟨⟨⟨a, b⟩, d⟩, e⟩
theorem and_1 (b : Bool) : bI b &&& nI 1 = bI (b && true) := by cases b <;> decide
theorem and_0 (b : Bool) : bI b &&& nI 0 = bI (b && false) := by cases b <;> decide
def okM (F : Nat → Nat → Int32) (c sk : Int32) (k : Nat) (g : Nat → Int32) (p : Nat) : Bool := isFg F g c (nI k) p && (sk == -1 || F 4 p == sk)
theorem okM_P {F : Nat → Nat → Int32} {c ts : Int32} {k : Nat} (h : ¬ ts = -1) : okM F c (if k = 0 then ts else -1) k = okP F c ts k := by
  funext g p
  unfold okM okP
  by_cases hk : k = 0
  · rw [if_pos hk, beq_f h, hk]; rfl
  · rw [if_neg hk, decide_eq_true (by omega)]; rfl
theorem mBook_r {F : Nat → Nat → Int32} {q r : Nat} (h : r < 5) : mBook F (5 * q + r) = F (8 + r) q := by
  unfold mBook
  rw [show (5 * q + r) % 5 = r by omega, show (5 * q + r) / 5 = q by omega]
theorem mBook_upd {F : Nat → Nat → Int32} {q r : Nat} (v : Int32) (h : r < 5) : upd (mBook F) (5 * q + r) v = mBook (va_up F (8 + r) (upd (F (8 + r)) q v)) := by
  funext z
  unfold mBook upd va_up
  by_cases e : z = 5 * q + r
  · subst e
    rw [if_pos rfl, if_pos (show 8 + (5 * q + r) % 5 = 8 + r by omega)]
    show v = if (5 * q + r) / 5 = q then v else _
    rw [if_pos (by omega)]
  · rw [if_neg e]
    by_cases e2 : 8 + z % 5 = 8 + r
    · rw [if_pos e2]
      show F (8 + z % 5) (z / 5) = if z / 5 = q then v else F (8 + r) (z / 5)
      rw [e2, if_neg (by omega)]
    · rw [if_neg e2]
theorem cpy_book {G : Nat → Nat → Int32} {c : Nat → Int32} {nq : Nat} {v0 v1 v2 v3 : Int32} (h0 : c 0 = v0) (h1 : c 1 = v1) (h2 : c 2 = v2) (h3 : c 3 = v3) (h4 : c 4 = G 12 nq) : va_cpy c (mBook G) 0 (5 * nq) 5 = mBook (va_up (va_up (va_up (va_up G 8 (upd (G 8) nq v0)) 9 (upd (G 9) nq v1)) 10 (upd (G 10) nq v2)) 11 (upd (G 11) nq v3)) := by
  funext z
  by_cases hz : 5 * nq ≤ z ∧ z < 5 * nq + 5
  · rw [pk_cpy_in hz.1 hz.2, Nat.zero_add]
    unfold mBook
    have hd : z / 5 = nq := by omega
    rw [hd]
    rcases (show z % 5 = 0 ∨ z % 5 = 1 ∨ z % 5 = 2 ∨ z % 5 = 3 ∨ z % 5 = 4 by omega) with e | e | e | e | e
    · rw [e, show z - 5 * nq = 0 by omega, h0]
      show v0 = upd (G 8) nq v0 nq
      rw [pk_us]
    · rw [e, show z - 5 * nq = 1 by omega, h1]
      show v1 = upd (G 9) nq v1 nq
      rw [pk_us]
    · rw [e, show z - 5 * nq = 2 by omega, h2]
      show v2 = upd (G 10) nq v2 nq
      rw [pk_us]
    · rw [e, show z - 5 * nq = 3 by omega, h3]
      show v3 = upd (G 11) nq v3 nq
      rw [pk_us]
    · rw [e, show z - 5 * nq = 4 by omega, h4]
      rfl
  · rw [pk_cpy_out (by omega)]
    unfold mBook
    have hd : ¬ z / 5 = nq := by omega
    rcases (show z % 5 = 0 ∨ z % 5 = 1 ∨ z % 5 = 2 ∨ z % 5 = 3 ∨ z % 5 = 4 by omega) with e | e | e | e | e
    · rw [e]
      show G 8 (z / 5) = upd (G 8) nq v0 (z / 5)
      rw [pk_un hd]
    · rw [e]
      show G 9 (z / 5) = upd (G 9) nq v1 (z / 5)
      rw [pk_un hd]
    · rw [e]
      show G 10 (z / 5) = upd (G 10) nq v2 (z / 5)
      rw [pk_un hd]
    · rw [e]
      show G 11 (z / 5) = upd (G 11) nq v3 (z / 5)
      rw [pk_un hd]
    · rw [e]; rfl
/-- the addresses of a world of N arrays, and what is new -/
def inB (ad : Nat → Nat) (N sz : Nat) : Nat → Prop := fun q => inA ad N q ∨ sz ≤ q
theorem ap_l {ws xs : va_W} {k : Nat} {q : Nat × va_E} (h : ws[k]? = some q) : (ws ++ xs)[k]? = some q := by
  rw [List.getElem?_append_left (List.getElem?_eq_some_iff.mp h).1]; exact h
theorem P_drop {D : va_G} {cl : List vw_C} {ws xs : va_W} {H : Heap} (h : va_P D cl (ws ++ xs) H) : va_P D cl ws H := fun k q hk => h k q (ap_l hk)
theorem P_dropS {D : va_G} {cl : List vw_C} {ws xs : va_W} {k : Nat} {e : Nat × va_E} {H : Heap} (hk : k < ws.length) (h : va_P D cl ((ws ++ xs).set k e) H) : va_P D cl (ws.set k e) H := by
  rw [List.set_append_left _ _ hk] at h
  exact P_drop h
theorem m_len {cI : ClassId} {ad : Nat → Nat} {th : Int32} {n np nq : Nat} {F : Nat → Nat → Int32} {T : Nat → Int32} : (wM cI ad th n np nq F T).length = 9 := rfl
theorem dS_cong {g g' : Nat → Int32} {d : Int64} : ∀ {k : Nat}, (∀ j, j < k → g j = g' j) → dS g d k = dS g' d k
  | 0, _ => rfl
  | k + 1, h => by rw [dS, dS, dS_cong (fun j hj => h j (by omega)), h k (by omega)]
theorem dS_book (F : Nat → Nat → Int32) (d : Int64) : ∀ q : Nat, dS (mBook F) d (5 * q) = dQ F d q
  | 0 => rfl
  | q + 1 => by
    show dS (mBook F) d (5 * q + 1 + 1 + 1 + 1 + 1) = _
    rw [dS, dS, dS, dS, dS, dS_book F d q, show mBook F (5 * q) = F (8 + 0) q from mBook_r (q := q) (r := 0) (by decide), mBook_r (r := 1) (by decide), mBook_r (r := 2) (by decide), mBook_r (r := 3) (by decide), mBook_r (r := 4) (by decide)]
    rfl
