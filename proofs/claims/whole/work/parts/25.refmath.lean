/-! the reference's own ways of saying the same -/
def isI (v lo hi : Int32) : Bool := decide (lo ≤ v) && decide (v ≤ hi)
theorem isI_k {x : Int32} {k : Nat} (hk : k + 1 < 2 ^ 31) : isI x (nI 0) (nI k) = inR x (k + 1) := by
  unfold isI inR
  show (decide ((0 : Int32) ≤ x) && _) = _
  rw [decide_eq_decide.mpr (lt_suc hk).symm]
theorem isI_n {x : Int32} {n : Nat} (hn : n < 2 ^ 31) : isI x (nI 0) (nI n - nI 1) = inR x n := by
  cases n with
  | zero =>
    unfold isI inR
    show (decide ((0 : Int32) ≤ x) && decide (x ≤ nI 0 - nI 1)) = (decide ((0 : Int32) ≤ x) && decide (x < 0))
    by_cases h : (0 : Int32) ≤ x
    · rw [decide_eq_false (show ¬ x ≤ nI 0 - nI 1 from fun q => absurd (Int32.le_trans h q) (by decide)), decide_eq_false (Int32.not_lt.mpr h)]
    · rw [decide_eq_false h]; rfl
  | succ k =>
    rw [pk_sub (by omega), Nat.add_sub_cancel, isI_k hn]
theorem isI_w {x : Int32} {k : Nat} : isI x (nI 1) (nI k) = inW x k := rfl
theorem isI_1 {v lo hi : Int32} (h : v < lo) : isI v lo hi = false := by
  unfold isI
  rw [decide_eq_false (Int32.not_le.mpr h)]; rfl
theorem isI_2 {v lo hi : Int32} (h : hi < v) : isI v lo hi = false := by
  unfold isI
  rw [decide_eq_false (Int32.not_le.mpr h), Bool.and_false]
theorem isI_3 {v lo hi : Int32} (h : ¬ v < lo) (h2 : ¬ hi < v) : isI v lo hi = true := by
  unfold isI
  rw [decide_eq_true (Int32.not_lt.mp h), decide_eq_true (Int32.not_lt.mp h2)]; rfl
theorem mCells_r {F : Nat → Nat → Int32} {s q : Nat} (h : q < 96) : mCells F (96 * s + q) = F (14 + s) q := by
  unfold mCells
  rw [show (96 * s + q) / 96 = s by omega, show (96 * s + q) % 96 = q by omega]
theorem pl_b (b fr w k : Nat) : pl (b + fr) w k = b + pl fr w k := by unfold pl; omega
theorem ctM {F : Nat → Nat → Int32} {s x y w h : Nat} {v : Int32} (hx : x + w ≤ 12) (hy : y + h ≤ 8) : ct (mCells F) (96 * s + 12 * y + x) w v (w * h) = ct (F (14 + s)) (12 * y + x) w v (w * h) :=
  ct_cong (fun k hk => by
    have h1 := pl_lt (y := y) hx hk
    rw [Nat.add_assoc, pl_b, mCells_r (by omega)])
theorem tSM {F : Nat → Nat → Int32} {s : Nat} {v : Int32} : ct (mCells F) (96 * s) 12 v (12 * 8) = tS F s v := ctM (x := 0) (y := 0) (w := 12) (h := 8) (by decide) (by decide)
theorem mCells_upd {F : Nat → Nat → Int32} {s q : Nat} (v : Int32) (h : q < 96) : upd (mCells F) (96 * s + q) v = mCells (va_up F (14 + s) (upd (F (14 + s)) q v)) := by
  funext z
  unfold mCells upd va_up
  by_cases e : z = 96 * s + q
  · subst e
    rw [if_pos rfl, if_pos (show 14 + (96 * s + q) / 96 = 14 + s by omega)]
    show v = if (96 * s + q) % 96 = q then v else _
    rw [if_pos (by omega)]
  · rw [if_neg e]
    by_cases e2 : 14 + z / 96 = 14 + s
    · rw [if_pos e2]
      show F (14 + z / 96) (z % 96) = if z % 96 = q then v else F (14 + s) (z % 96)
      rw [e2, if_neg (by omega)]
    · rw [if_neg e2]
theorem flM {F : Nat → Nat → Int32} {s x y w h : Nat} {v : Int32} (hx : x + w ≤ 12) (hy : y + h ≤ 8) : ∀ K, K ≤ w * h → fl (mCells F) (96 * s + 12 * y + x) w v K = mCells (va_up F (14 + s) (fl (F (14 + s)) (12 * y + x) w v K))
  | 0, _ => by
    show mCells F = mCells (va_up F (14 + s) (F (14 + s)))
    rw [va_up_id]
  | K + 1, hK => by
    have h1 := pl_lt (y := y) hx (show K < w * h by omega)
    show upd (fl (mCells F) (96 * s + 12 * y + x) w v K) (pl (96 * s + 12 * y + x) w K) v = _
    rw [flM hx hy K (by omega), Nat.add_assoc, pl_b, mCells_upd v (by omega), uu, va_up_self]
    rfl
theorem m_set2c {cI : ClassId} {ad : Nat → Nat} {th : Int32} {n np nq s : Nat} {F : Nat → Nat → Int32} {T g : Nat → Int32} : (wM cI ad th n np nq F T).set 2 (ad 2, .inl (cI, 960, .inl (mCells (va_up F (14 + s) g)))) = wM cI ad th n np nq (va_up F (14 + s) g) T := by
  have e : ∀ k, k < 14 → va_up F (14 + s) g k = F k := fun k hk => va_up_ne _ _ (by omega)
  have eB : mBook (va_up F (14 + s) g) = mBook F := by
    funext q
    unfold mBook
    rw [e _ (by omega)]
  refine m_setA (by decide) (by decide) (by simp [mE]) (fun j h1 h8 hj => ?_)
  rcases (show j = 1 ∨ j = 2 ∨ j = 3 ∨ j = 4 ∨ j = 5 ∨ j = 6 ∨ j = 7 ∨ j = 8 by omega) with rfl | rfl | rfl | rfl | rfl | rfl | rfl | rfl <;> first | exact absurd rfl hj | simp [mE, e, eB]
/-- the reference's world doesn't see arrays 2, 3 and 13 -/
theorem wM_up {cI : ClassId} {ad : Nat → Nat} {th : Int32} {n np nq k : Nat} {F : Nat → Nat → Int32} {T g : Nat → Int32} (hk : k = 2 ∨ k = 3 ∨ k = 13) : wM cI ad th n np nq (va_up F k g) T = wM cI ad th n np nq F T := by
  have e : ∀ j, j ≠ k → va_up F k g j = F j := fun j hj => va_up_ne _ _ hj
  have eC : mCells (va_up F k g) = mCells F := by
    funext q
    unfold mCells
    rw [e _ (by omega)]
  have eB : mBook (va_up F k g) = mBook F := by
    funext q
    unfold mBook
    rw [e _ (by omega)]
  unfold wM
  refine AW_congr (fun j => ?_)
  unfold mE
  rw [eC, eB, e 1 (by omega)]
  by_cases h1 : j = 1
  · rw [if_pos h1, if_pos h1]
  · rw [if_neg h1, if_neg h1]
    by_cases h2 : j = 2
    · rw [if_pos h2, if_pos h2]
    · rw [if_neg h2, if_neg h2]
      by_cases h6 : j ≤ 6
      · rw [if_pos h6, if_pos h6]
        by_cases h0 : j + 1 = k
        · exfalso; omega
        · rw [e _ h0]
      · rw [if_neg h6, if_neg h6]
def small (f : Nat → Int32) (N : Nat) : Prop := ∀ q, q < N → f q = 0 ∨ f q = nI 1 ∨ f q = nI 2 ∨ f q = nI 3
theorem ct_all {f : Nat → Int32} {fr w : Nat} : ∀ {K : Nat}, (∀ k, k < K → f (pl fr w k) = 0 ∨ f (pl fr w k) = nI 1 ∨ f (pl fr w k) = nI 2 ∨ f (pl fr w k) = nI 3) → ct f fr w (nI 0) K + ct f fr w (nI 1) K + ct f fr w (nI 2) K + ct f fr w (nI 3) K = K
  | 0, _ => rfl
  | K + 1, h => by
    have ih := ct_all (K := K) (fun k hk => h k (by omega))
    rcases h K (by omega) with q | q | q | q
    · rw [ct_yes rfl (show f (pl fr w K) = nI 0 from q), ct_no rfl (by rw [q]; decide), ct_no rfl (by rw [q]; decide), ct_no rfl (by rw [q]; decide)]; omega
    · rw [ct_no rfl (by rw [q]; decide), ct_yes rfl q, ct_no rfl (by rw [q]; decide), ct_no rfl (by rw [q]; decide)]; omega
    · rw [ct_no rfl (by rw [q]; decide), ct_no rfl (by rw [q]; decide), ct_yes rfl q, ct_no rfl (by rw [q]; decide)]; omega
    · rw [ct_no rfl (by rw [q]; decide), ct_no rfl (by rw [q]; decide), ct_no rfl (by rw [q]; decide), ct_yes rfl q]; omega
/-- fitting, as the reference asks it of a row of cells that begins at b -/
theorem fitM_no {f : Nat → Int32} {b k : Nat} {tb : Bool} {p : Nat} (h : ¬ (p % 12 + wd k tb ≤ 12 ∧ p / 12 + hg k tb ≤ 8)) : fitA (fun q => f (b + q)) k tb p = false := by
  unfold fitA fitB
  simp only [Bool.and_eq_false_iff, decide_eq_false_iff_not]
  omega
theorem ct_b {f : Nat → Int32} {b p w : Nat} {v : Int32} {K : Nat} : ct f (b + p) w v K = ct (fun q => f (b + q)) p w v K := ct_cong (fun k _ => by rw [pl_b])
theorem fitM_y {f : Nat → Int32} {b k : Nat} {tb : Bool} {p : Nat} (h : p % 12 + wd k tb ≤ 12 ∧ p / 12 + hg k tb ≤ 8) (hs : small (fun q => f (b + q)) 96) : fitA (fun q => f (b + q)) k tb p = decide (wd k tb * hg k tb ≤ ct f (b + p) (wd k tb) (nI 0) (wd k tb * hg k tb) + ct f (b + p) (wd k tb) (nI 1) (wd k tb * hg k tb) ∧ ct f (b + p) (wd k tb) (nI 1) (wd k tb * hg k tb) ≤ kT k) := by
  have e : 12 * (p / 12) + p % 12 = p := Nat.div_add_mod p 12
  have ha := ct_all (f := fun q => f (b + q)) (fr := p) (w := wd k tb) (K := wd k tb * hg k tb) (fun j hj => hs _ (by
    have h9 := pl_lt (x := p % 12) (y := p / 12) h.1 hj
    rw [e] at h9
    omega))
  unfold fitA fitB
  rw [e, ct_b, ct_b]
  apply Bool.eq_iff_iff.mpr
  simp only [Bool.and_eq_true, decide_eq_true_eq]
  omega
