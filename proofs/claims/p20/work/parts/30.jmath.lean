/-! sums, and cells that are painted -/
def bn (b : Bool) : Nat := if b = true then 1 else 0
theorem bn_le (b : Bool) : bn b ≤ 1 := by cases b <;> decide
theorem cn_bn (P : Nat → Bool) (k : Nat) : cn P (k + 1) = cn P k + bn (P k) := rfl
theorem cn_add {P Q R : Nat → Bool} : ∀ {k : Nat}, (∀ j, j < k → bn (R j) = bn (P j) + bn (Q j)) → cn R k = cn P k + cn Q k
  | 0, _ => rfl
  | k + 1, h => by
    have h1 := cn_add (P := P) (Q := Q) (R := R) (k := k) (fun j hj => h j (by omega))
    have h2 := h k (by omega)
    rw [cn_bn P k, cn_bn Q k, cn_bn R k]
    omega
theorem cn_none {P : Nat → Bool} : ∀ {k : Nat}, (∀ j, j < k → P j = false) → cn P k = 0
  | 0, _ => rfl
  | k + 1, h => by rw [cn_f (h k (by omega)), cn_none (fun j hj => h j (by omega))]
theorem cn_pos {P : Nat → Bool} : ∀ {k j : Nat}, j < k → P j = true → 0 < cn P k
  | 0, _, h, _ => absurd h (Nat.not_lt_zero _)
  | k + 1, j, h, hp => by
    rcases Nat.lt_or_ge j k with q | q
    · have := cn_pos q hp
      rw [cn_bn P k]
      omega
    · have e : j = k := by omega
      subst e
      rw [cn_t hp]
      omega
theorem cn_ex {P : Nat → Bool} : ∀ {k : Nat}, 0 < cn P k → ∃ j, j < k ∧ P j = true
  | 0, h => absurd h (Nat.lt_irrefl 0)
  | k + 1, h => by
    cases hp : P k
    · rw [cn_f hp] at h
      obtain ⟨j, a, b⟩ := cn_ex h
      exact ⟨j, by omega, b⟩
    · exact ⟨k, by omega, hp⟩
def sm (f : Nat → Nat) : Nat → Nat | 0 => 0 | k + 1 => sm f k + f k
theorem sm_s (f : Nat → Nat) (k : Nat) : sm f (k + 1) = sm f k + f k := rfl
theorem sm_cong {f g : Nat → Nat} : ∀ {k : Nat}, (∀ j, j < k → f j = g j) → sm f k = sm g k
  | 0, _ => rfl
  | k + 1, h => by rw [sm_s f k, sm_s g k, sm_cong (fun j hj => h j (by omega)), h k (by omega)]
theorem sm_0 {f : Nat → Nat} : ∀ {k : Nat}, (∀ j, j < k → f j = 0) → sm f k = 0
  | 0, _ => rfl
  | k + 1, h => by rw [sm_s f k, sm_0 (fun j hj => h j (by omega)), h k (by omega)]
theorem cn_upd {P : Int32 → Bool} {g : Nat → Int32} {q : Nat} {v : Int32} : ∀ {K : Nat}, q < K → cn (fun j => P (upd g q v j)) K + bn (P (g q)) = cn (fun j => P (g j)) K + bn (P v)
  | 0, h => absurd h (Nat.not_lt_zero _)
  | K + 1, h => by
    show cn (fun j => P (upd g q v j)) K + bn (P (upd g q v K)) + bn (P (g q)) = cn (fun j => P (g j)) K + bn (P (g K)) + bn (P v)
    rcases Nat.lt_or_ge q K with h1 | h1
    · have := cn_upd (P := P) (g := g) (v := v) h1
      rw [upd_n g v (show ¬ K = q by omega)]
      omega
    · have e : q = K := by omega
      subst e
      rw [upd_s, cn_cong (P := fun j => P (upd g q v j)) (Q := fun j => P (g j)) (fun j hj => by show P (upd g q v j) = P (g j); rw [upd_n g v (show ¬ j = q by omega)])]
      omega
theorem pl_inj {fr w i j : Nat} (hw : w ≤ 12) (h0 : 0 < w) (h : pl fr w i = pl fr w j) : i = j := by
  unfold pl at h
  have a := Nat.mod_lt i h0
  have b := Nat.mod_lt j h0
  have c := Nat.div_add_mod i w
  have d := Nat.div_add_mod j w
  generalize i / w = p at *
  generalize i % w = r at *
  generalize j / w = p2 at *
  generalize j % w = r2 at *
  have e1 : p = p2 := by omega
  have e2 : r = r2 := by omega
  subst e1
  subst e2
  exact c.symm.trans d
theorem fl_out (f : Nat → Int32) (fr w : Nat) (v : Int32) {q : Nat} : ∀ {K : Nat}, (∀ j, j < K → ¬ q = pl fr w j) → fl f fr w v K q = f q
  | 0, _ => rfl
  | K + 1, h => by
    show upd (fl f fr w v K) (pl fr w K) v q = f q
    rw [upd_n _ _ (h K (by omega)), fl_out f fr w v (fun j hj => h j (by omega))]
theorem paint {P : Int32 → Bool} {f : Nat → Int32} {fr w : Nat} {v : Int32} (h0 : 0 < w) (hw : w ≤ 12) : ∀ {K : Nat}, (∀ j, j < K → pl fr w j < 96) → cn (fun j => P (fl f fr w v K j)) 96 + cn (fun k => P (f (pl fr w k))) K = cn (fun j => P (f j)) 96 + K * bn (P v)
  | 0, _ => by
    show cn (fun j => P (f j)) 96 + 0 = cn (fun j => P (f j)) 96 + 0 * bn (P v)
    omega
  | K + 1, h => by
    have ih := paint (P := P) (f := f) (v := v) h0 hw (K := K) (fun j hj => h j (by omega))
    have e : fl f fr w v K (pl fr w K) = f (pl fr w K) := fl_out f fr w v (fun j hj e => absurd (pl_inj hw h0 e) (by omega))
    have u := cn_upd (P := P) (g := fl f fr w v K) (v := v) (h K (by omega))
    rw [e] at u
    rw [Nat.succ_mul]
    show cn (fun j => P (upd (fl f fr w v K) (pl fr w K) v j)) 96 + (cn (fun k => P (f (pl fr w k))) K + bn (P (f (pl fr w K)))) = cn (fun j => P (f j)) 96 + (K * bn (P v) + bn (P v))
    omega
/-- how many cells hold v -/
def cv (f : Nat → Int32) (v : Int32) : Nat := cn (fun q => f q == v) 96
theorem ct_all (f : Nat → Int32) (v : Int32) : ct f 0 12 v 96 = cv f v := cn_cong (fun k hk => by unfold ctP; rw [show pl 0 12 k = k by unfold pl; omega])
theorem tS_cv (F : Nat → Nat → Int32) (s : Nat) (v : Int32) : tS F s v = cv (F (14 + s)) v := ct_all _ _
theorem paint_cv {f : Nat → Int32} {fr w : Nat} {v x : Int32} {K : Nat} (h0 : 0 < w) (hw : w ≤ 12) (h : ∀ j, j < K → pl fr w j < 96) : cv (fl f fr w v K) x + ct f fr w x K = cv f x + K * bn (v == x) :=
  paint (P := fun y => y == x) h0 hw h
theorem bn4 : ∀ x : Int32, (x = 0 ∨ x = nI 1 ∨ x = nI 2 ∨ x = nI 3) → bn (x == nI 0) + bn (x == nI 1) + bn (x == nI 2) + bn (x == nI 3) = 1 := by
  rintro x (rfl | rfl | rfl | rfl) <;> decide
theorem tot4 {f : Nat → Int32} : ∀ {K : Nat}, (∀ q, q < K → f q = 0 ∨ f q = nI 1 ∨ f q = nI 2 ∨ f q = nI 3) → cn (fun q => f q == nI 0) K + cn (fun q => f q == nI 1) K + cn (fun q => f q == nI 2) K + cn (fun q => f q == nI 3) K = K
  | 0, _ => rfl
  | K + 1, h => by
    have ih := tot4 (f := f) (K := K) (fun q hq => h q (by omega))
    have b := bn4 _ (h K (by omega))
    show cn (fun q => f q == nI 0) K + bn (f K == nI 0) + (cn (fun q => f q == nI 1) K + bn (f K == nI 1)) + (cn (fun q => f q == nI 2) K + bn (f K == nI 2)) + (cn (fun q => f q == nI 3) K + bn (f K == nI 3)) = K + 1
    omega
theorem cv_tot {f : Nat → Int32} (h : small f 96) : cv f (nI 0) + cv f (nI 1) + cv f (nI 2) + cv f (nI 3) = 96 := tot4 h
/-- how many cells a piece of a kind has -/
def kz (k : Nat) : Nat := kW k * kH k
theorem wh_kz (k : Nat) (tb : Bool) : wd k tb * hg k tb = kz k := by
  cases tb
  · simp [wd, hg, kz]
  · simp [wd, hg, kz, Nat.mul_comm]
theorem kz_ge (k : Nat) : 1 ≤ kz k := Nat.mul_pos (kW_le k).2 (kH_le k).2
theorem fit_facts {f : Nat → Int32} {k a : Nat} {tb : Bool} (hf : fitA f k tb a = true) : (∀ j, j < kz k → pl a (wd k tb) j < 96) ∧ ct f a (wd k tb) (nI 2) (kz k) = 0 ∧ ct f a (wd k tb) (nI 3) (kz k) = 0 ∧ ct f a (wd k tb) (nI 1) (kz k) ≤ kT k := by
  unfold fitA fitB at hf
  simp only [Bool.and_eq_true, decide_eq_true_eq] at hf
  rw [Nat.div_add_mod, wh_kz] at hf
  obtain ⟨h1, h2, h3, h4, h5⟩ := hf
  refine ⟨fun j hj => ?_, h3, h4, h5⟩
  have := pl_lt (x := a % 12) (y := a / 12) (w := wd k tb) (h := hg k tb) (k := j) h1 (by rw [wh_kz]; exact hj)
  rw [Nat.div_add_mod] at this
  omega
theorem small_pl {f : Nat → Int32} {fr w K : Nat} (hs : small f 96) (h : ∀ j, j < K → pl fr w j < 96) : ct f fr w (nI 0) K + ct f fr w (nI 1) K + ct f fr w (nI 2) K + ct f fr w (nI 3) K = K := tot4 (f := fun k => f (pl fr w k)) (fun q hq => hs _ (h q hq))
theorem gv_fl (f : Nat → Int32) (k : Nat) (tb : Bool) (a : Nat) : gvF f k tb a = fl f a (wd k tb) (nI 3) (kz k) := by
  unfold gvF
  rw [wh_kz]
/-- a piece is cut: what the counts of cells become -/
theorem cut_cv {f : Nat → Int32} {k a : Nat} {tb : Bool} (hs : small f 96) (hf : fitA f k tb a = true) : cv (gvF f k tb a) (nI 0) + ct f a (wd k tb) (nI 0) (kz k) = cv f (nI 0) ∧ cv (gvF f k tb a) (nI 1) + ct f a (wd k tb) (nI 1) (kz k) = cv f (nI 1) ∧ cv (gvF f k tb a) (nI 2) = cv f (nI 2) ∧ cv (gvF f k tb a) (nI 3) = cv f (nI 3) + kz k ∧ ct f a (wd k tb) (nI 0) (kz k) + ct f a (wd k tb) (nI 1) (kz k) = kz k := by
  obtain ⟨h1, h2, h3, h4⟩ := fit_facts hf
  have hw := wd_le k tb
  rw [gv_fl]
  have p0 := paint_cv (f := f) (v := nI 3) (x := nI 0) (show 0 < wd k tb by omega) (by omega) h1
  have p1 := paint_cv (f := f) (v := nI 3) (x := nI 1) (show 0 < wd k tb by omega) (by omega) h1
  have p2 := paint_cv (f := f) (v := nI 3) (x := nI 2) (show 0 < wd k tb by omega) (by omega) h1
  have p3 := paint_cv (f := f) (v := nI 3) (x := nI 3) (show 0 < wd k tb by omega) (by omega) h1
  have t := small_pl hs h1
  rw [show bn (nI 3 == nI 0) = 0 by decide, Nat.mul_zero] at p0
  rw [show bn (nI 3 == nI 1) = 0 by decide, Nat.mul_zero] at p1
  rw [show bn (nI 3 == nI 2) = 0 by decide, Nat.mul_zero] at p2
  rw [show bn (nI 3 == nI 3) = 1 by decide, Nat.mul_one] at p3
  omega
theorem gv_small {f : Nat → Int32} {k a : Nat} {tb : Bool} (hs : small f 96) : small (gvF f k tb a) 96 := small_fl hs (Or.inr (Or.inr (Or.inr rfl)))
/-- what is given has room -/
theorem gv_bound (k : Nat) (tb : Bool) : ∀ (u : Nat) (f : Nat → Int32), small f 96 → gvN f k tb u * kz k ≤ cv f (nI 0) + cv f (nI 1)
  | 0, f, _ => by rw [gvN, Nat.zero_mul]; exact Nat.zero_le _
  | u + 1, f, hs => by
    rw [gvN_s]
    by_cases h : fN (fitA f k tb) 0 96 < 96
    · rw [if_pos h, Nat.succ_mul]
      have ih := gv_bound k tb u _ (gv_small (f := f) (k := k) (tb := tb) (a := fN (fitA f k tb) 0 96) hs)
      have hf : fitA f k tb (fN (fitA f k tb) 0 96) = true := by
        rcases fN_fI (fitA f k tb) 96 0 with q | q
        · exact q.2.2.1
        · exact absurd q.1 (by omega)
      have c := cut_cv hs hf
      omega
    · rw [if_neg h, Nat.zero_mul]; exact Nat.zero_le _
theorem gvN_fuel (k : Nat) (tb : Bool) : ∀ (u : Nat) (f : Nat → Int32), gvN f k tb u < u → gvN f k tb (u + 1) = gvN f k tb u
  | 0, f, h => absurd h (Nat.not_lt_zero _)
  | u + 1, f, h => by
    rw [gvN_s f k tb (u + 1), gvN_s f k tb u]
    rw [gvN_s f k tb u] at h
    by_cases h1 : fN (fitA f k tb) 0 96 < 96
    · rw [if_pos h1] at h
      rw [if_pos h1, if_pos h1, gvN_fuel k tb u _ (by omega)]
    · rw [if_neg h1, if_neg h1]
/-- a piece is cut at the first place: one is given less -/
theorem gv_cut {f : Nat → Int32} {k a : Nat} {tb : Bool} (hs : small f 96) (ha : a < 96) (h : fI (fitA f k tb) 0 (96 - 0) = nI a) : gvN f k tb 97 = gvN (gvF f k tb a) k tb 97 + 1 := by
  have e : gvN f k tb 97 = gvN (gvF f k tb a) k tb 96 + 1 := gvN_y (k := k) (tb := tb) (u := 96) ha h
  have b := gv_bound k tb 97 f hs
  have t := cv_tot hs
  have z := kz_ge k
  have m : gvN f k tb 97 ≤ gvN f k tb 97 * kz k := Nat.le_mul_of_pos_right _ z
  have e2 : gvN (gvF f k tb a) k tb 97 = gvN (gvF f k tb a) k tb 96 := gvN_fuel k tb 96 (gvF f k tb a) (by omega)
  omega
theorem gv_iff (f : Nat → Int32) (k : Nat) (tb : Bool) : (∃ a, a < 96 ∧ fI (fitA f k tb) 0 (96 - 0) = nI a ∧ fitA f k tb a = true ∧ 0 < gvN f k tb 97) ∨ (fI (fitA f k tb) 0 (96 - 0) = -1 ∧ gvN f k tb 97 = 0) := by
  rcases fI_cases f k tb with ⟨a, h1, h2, h3, -⟩ | ⟨h1, -⟩
  · exact Or.inl ⟨a, h1, h2, h3, by rw [gvN_y h1 h2]; omega⟩
  · exact Or.inr ⟨h1, gvN_n h1⟩
theorem gv_le96 {f : Nat → Int32} (k : Nat) (tb : Bool) (hs : small f 96) : gvN f k tb 97 ≤ 96 := by
  have b := gv_bound k tb 97 f hs
  have t := cv_tot hs
  have m : gvN f k tb 97 ≤ gvN f k tb 97 * kz k := Nat.le_mul_of_pos_right _ (kz_ge k)
  omega
/-- the best -/
theorem bB_spec (g : Nat → Nat) : ∀ n : Nat, (∀ s, s < n → g s ≤ bM g n) ∧ ((bM g n = 0 ∧ bB g n = -1) ∨ ∃ s, s < n ∧ bB g n = nI s ∧ g s = bM g n)
  | 0 => ⟨fun s h => absurd h (Nat.not_lt_zero s), Or.inl ⟨rfl, rfl⟩⟩
  | n + 1 => by
    obtain ⟨h1, h2⟩ := bB_spec g n
    rw [bM, bB]
    by_cases h : bM g n < g n
    · rw [if_pos h, if_pos h]
      refine ⟨fun s hs => ?_, Or.inr ⟨n, by omega, rfl, rfl⟩⟩
      rcases Nat.lt_or_ge s n with q | q
      · have := h1 s q
        omega
      · rw [show s = n by omega]
        exact Nat.le_refl _
    · rw [if_neg h, if_neg h]
      refine ⟨fun s hs => ?_, ?_⟩
      · rcases Nat.lt_or_ge s n with q | q
        · exact h1 s q
        · rw [show s = n by omega]
          omega
      · rcases h2 with q | ⟨s, a, b, c⟩
        · exact Or.inl q
        · exact Or.inr ⟨s, by omega, b, c⟩
theorem nI_m1 {a : Nat} (ha : a < 2 ^ 31) : ¬ (-1 : Int32) = nI a := fun z => absurd (show (0 : Int32) ≤ -1 by rw [z]; exact nI_pos' ha) (by decide)
theorem nI_m2 {a : Nat} (ha : a < 2 ^ 31) : ¬ (-2 : Int32) = nI a := fun z => absurd (show (0 : Int32) ≤ -2 by rw [z]; exact nI_pos' ha) (by decide)
/-- the best gives as much as any -/
theorem best_ge {g : Nat → Nat} {n s : Nat} (hs : s < n) (h : 0 < g s) : ∃ t, t < n ∧ bB g n = nI t ∧ g s ≤ g t := by
  obtain ⟨h1, h2⟩ := bB_spec g n
  have := h1 s hs
  rcases h2 with q | ⟨t, a, b, c⟩
  · omega
  · exact ⟨t, a, b, by omega⟩
