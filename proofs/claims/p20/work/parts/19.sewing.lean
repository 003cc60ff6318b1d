/-! sewing -/
/-- Integer.bitCount, as its code has it -/
def usI (x k : Int32) : Int32 := (x.toUInt32 >>> (k.toUInt32 &&& Int32.toUInt32 31)).toInt32
def bc1 (x : Int32) : Int32 := x - (usI x (nI 1) &&& 1431655765)
def bc2 (x : Int32) : Int32 := (x &&& 858993459) + (usI x (nI 2) &&& 858993459)
def bc3 (x : Int32) : Int32 := (x + usI x (nI 4)) &&& 252645135
def bc4 (x : Int32) : Int32 := x + usI x (nI 8)
def bc5 (x : Int32) : Int32 := x + usI x (nI 16)
def bcI (x : Int32) : Int32 := bc5 (bc4 (bc3 (bc2 (bc1 x)))) &&& nI 63
def isFg (F : Nat → Nat → Int32) (g : Nat → Int32) (c kd : Int32) (p : Nat) : Bool := g p == -1 && (F 5 p == kd && F 1 (F 4 p).toNatClampNeg == c)
/-- whether piece p goes into the pair as one of kind k -/
def okP (F : Nat → Nat → Int32) (c ts : Int32) (k : Nat) (g : Nat → Int32) (p : Nat) : Bool := isFg F g c (nI k) p && (decide (0 < k) || F 4 p == ts)
/-- taking pieces in order, v written where one is taken, until none is left to take -/
def tkG (P : (Nat → Int32) → Nat → Bool) (v : Int32) (g : Nat → Int32) (l : Nat) : Nat → (Nat → Int32) × Nat | 0 => (g, l) | p + 1 => if 0 < (tkG P v g l p).2 ∧ P (tkG P v g l p).1 p = true then (upd (tkG P v g l p).1 p v, (tkG P v g l p).2 - 1) else tkG P v g l p
theorem tk_n {P : (Nat → Int32) → Nat → Bool} {v : Int32} {g g' : Nat → Int32} {l l' p : Nat} (h : (g', l') = tkG P v g l p) (hn : P g' p = false) : (g', l') = tkG P v g l (p + 1) := by
  rw [tkG, ← h, if_neg (fun q => by have q2 := q.2; rw [hn] at q2; cases q2)]
theorem tk_y {P : (Nat → Int32) → Nat → Bool} {v : Int32} {g g' : Nat → Int32} {l l' p : Nat} (h : (g', l') = tkG P v g l p) (hl : 0 < l') (hn : P g' p = true) : (upd g' p v, l' - 1) = tkG P v g l (p + 1) := by
  rw [tkG, ← h, if_pos ⟨hl, hn⟩]
theorem tk_done {P : (Nat → Int32) → Nat → Bool} {v : Int32} {g g' : Nat → Int32} {l p : Nat} (h : (g', 0) = tkG P v g l p) : ∀ m, (g', 0) = tkG P v g l (p + m)
  | 0 => h
  | m + 1 => by
    have ih := tk_done h m
    show (g', 0) = tkG P v g l ((p + m) + 1)
    rw [tkG, ← ih, if_neg (fun q => absurd q.1 (Nat.lt_irrefl 0))]
theorem tk_end {P : (Nat → Int32) → Nat → Bool} {v : Int32} {g g' : Nat → Int32} {l l' p np : Nat} (h : (g', l') = tkG P v g l p) (hp : p ≤ np) (he : p = np ∨ l' = 0) : g' = (tkG P v g l np).1 := by
  rcases he with e | e
  · subst e; rw [← h]
  · subst e
    have := tk_done h (np - p)
    rw [show p + (np - p) = np by omega] at this
    rw [← this]
/-- where each piece is, when the first k kinds are taken -/
def tk4 (F : Nat → Nat → Int32) (np : Nat) (c ts v : Int32) : Nat → Nat → Int32 | 0 => F 6 | k + 1 => (tkG (okP F c ts k) v (tk4 F np c ts v k) (kP k) np).1
def sS (h g : Nat → Int32) (v : Int32) : Nat → Int32 | 0 => nI 0 | p + 1 => if g p == v then sS h g v p + h p else sS h g v p
def sO (h g : Nat → Int32) (v : Int32) : Nat → Int32 | 0 => nI 0 | p + 1 => if g p == v then sO h g v p ||| (nI 1 <<< (h p &&& 31)) else sO h g v p
theorem sS_out (h g : Nat → Int32) (v : Int32) (i : Nat) : ∀ p, p ≤ i → sS h (upd g i v) v p = sS h g v p
  | 0, _ => rfl
  | p + 1, hp => by
    rw [sS, sS, sS_out h g v i p (by omega), pk_un (by omega)]
theorem sO_out (h g : Nat → Int32) (v : Int32) (i : Nat) : ∀ p, p ≤ i → sO h (upd g i v) v p = sO h g v p
  | 0, _ => rfl
  | p + 1, hp => by
    rw [sO, sO, sO_out h g v i p (by omega), pk_un (by omega)]
theorem sS_upd {h g : Nat → Int32} {v : Int32} {i : Nat} (hg : ¬ g i = v) : ∀ np, i < np → sS h (upd g i v) v np = sS h g v np + h i
  | 0, hp => absurd hp (Nat.not_lt_zero _)
  | p + 1, hp => by
    rcases Nat.lt_or_ge i p with q | q
    · rw [sS, sS, sS_upd hg p q, pk_un (by omega)]
      split
      · rw [Int32.add_assoc, Int32.add_comm (h i), ← Int32.add_assoc]
      · rfl
    · have e : i = p := by omega
      subst e
      rw [sS, sS, sS_out h g v i i (Nat.le_refl _), pk_us, beq_t rfl, beq_f hg]
      rfl
theorem sO_upd {h g : Nat → Int32} {v : Int32} {i : Nat} (hg : ¬ g i = v) : ∀ np, i < np → sO h (upd g i v) v np = sO h g v np ||| (nI 1 <<< (h i &&& 31))
  | 0, hp => absurd hp (Nat.not_lt_zero _)
  | p + 1, hp => by
    rcases Nat.lt_or_ge i p with q | q
    · rw [sO, sO, sO_upd hg p q, pk_un (by omega)]
      split
      · rw [Int32.or_assoc, Int32.or_comm (nI 1 <<< (h i &&& 31)), ← Int32.or_assoc]
      · rfl
    · have e : i = p := by omega
      subst e
      rw [sO, sO, sO_out h g v i i (Nat.le_refl _), pk_us, beq_t rfl, beq_f hg]
      rfl
theorem sS_0 {h g : Nat → Int32} {v : Int32} : ∀ {np : Nat}, (∀ p, p < np → ¬ g p = v) → sS h g v np = nI 0
  | 0, _ => rfl
  | p + 1, hn => by
    rw [sS, beq_f (hn p (by omega)), sS_0 (fun q hq => hn q (by omega))]; rfl
theorem sO_0 {h g : Nat → Int32} {v : Int32} : ∀ {np : Nat}, (∀ p, p < np → ¬ g p = v) → sO h g v np = nI 0
  | 0, _ => rfl
  | p + 1, hn => by
    rw [sO, beq_f (hn p (by omega)), sO_0 (fun q hq => hn q (by omega))]; rfl
theorem up4 (f : Nat → Nat → Int32) (a b c d : Nat → Int32) : va_up (va_up (va_up (va_up f 6 a) 11 b) 6 c) 11 d = va_up (va_up f 6 c) 11 d := by
  funext j
  unfold va_up
  by_cases h1 : j = 11
  · simp [h1]
  · by_cases h2 : j = 6
    · simp [h2]
    · simp [h1, h2]
theorem upd_id (f : Nat → Int32) (k : Nat) : upd f k (f k) = f := by
  funext j
  unfold upd
  split
  · next h => rw [h]
  · rfl
theorem upd_upd (f : Nat → Int32) (k : Nat) (x y : Int32) : upd (upd f k x) k y = upd f k y := by
  funext j
  unfold upd
  split <;> rfl
def tsI (F : Nat → Nat → Int32) (n np : Nat) (c : Int32) : Int32 := fI (tsB F np c) 0 (n - 0)
def swB (F : Nat → Nat → Int32) (nq : Nat) (c ts : Int32) : Nat → Nat → Int32 := va_up (va_up F 8 (upd (F 8) nq c)) 9 (upd (F 9) nq ts)
def swG (F : Nat → Nat → Int32) (np nq : Nat) (c ts : Int32) (g : Nat → Int32) : Nat → Nat → Int32 := va_up (va_up (swB F nq c ts) 6 g) 11 (upd (F 11) nq (sS (F 7) g (nI nq) np))
def swF (F : Nat → Nat → Int32) (n np nq : Nat) (c : Int32) : Nat → Nat → Int32 :=
  va_up (swG F np nq c (tsI F n np c) (tk4 F np c (tsI F n np c) (nI nq) 4)) 10 (upd (F 10) nq (bcI (sO (F 4) (tk4 F np c (tsI F n np c) (nI nq) 4) (nI nq) np)))
theorem swG_0 {F : Nat → Nat → Int32} {np nq : Nat} {c ts : Int32} (h1 : ∀ p, p < np → ¬ F 6 p = nI nq) (h2 : F 11 nq = 0) : swG F np nq c ts (F 6) = swB F nq c ts := by
  unfold swG
  rw [sS_0 h1, show nI 0 = F 11 nq from h2.symm, upd_id]
  show va_up (va_up (swB F nq c ts) 6 (swB F nq c ts 6)) 11 (swB F nq c ts 11) = _
  rw [va_up_id, va_up_id]
theorem swG_s {F : Nat → Nat → Int32} {np nq p : Nat} {c ts : Int32} {g : Nat → Int32} (hp : p < np) (hg : g p = -1) (hq : nq < 2 ^ 31) : va_up (va_up (swG F np nq c ts g) 6 (upd g p (nI nq))) 11 (upd (upd (F 11) nq (sS (F 7) g (nI nq) np)) nq (sS (F 7) g (nI nq) np + F 7 p)) = swG F np nq c ts (upd g p (nI nq)) := by
  unfold swG
  rw [up4, upd_upd, sS_upd (by rw [hg]; exact fun z => absurd (show (0 : Int32) ≤ -1 by rw [z]; exact nI_pos' hq) (by decide)) np hp]
theorem swG_t {F : Nat → Nat → Int32} {np nq p : Nat} {c ts : Int32} {g : Nat → Int32} (hp : p < np) (hg : g p = -1) (hq : nq < 2 ^ 31) : va_up (va_up (swG F np nq c ts g) 6 (upd (swG F np nq c ts g 6) p (nI nq))) 11 (upd (va_up (swG F np nq c ts g) 6 (upd (swG F np nq c ts g 6) p (nI nq)) 11) nq (va_up (swG F np nq c ts g) 6 (upd (swG F np nq c ts g 6) p (nI nq)) 11 nq + va_up (swG F np nq c ts g) 6 (upd (swG F np nq c ts g 6) p (nI nq)) 7 p)) = swG F np nq c ts (upd g p (nI nq)) := by
  have e : va_up (swG F np nq c ts g) 6 (upd (swG F np nq c ts g 6) p (nI nq)) 11 nq = sS (F 7) g (nI nq) np := by
    show swG F np nq c ts g 11 nq = _
    unfold swG
    rw [va_up_self, pk_us]
  rw [e]
  exact swG_s hp hg hq
/-- whether a pair of a colour can be sewn -/
def canS (F : Nat → Nat → Int32) (n np : Nat) (c : Int32) : Bool := decide (lkN F n np c 0 = 0 ∧ lkN F n np c 1 = 0 ∧ lkN F n np c 2 = 0 ∧ lkN F n np c 3 = 0)
def spSew (n np nq : Nat) (F : Nat → Nat → Int32) (c : Int32) : Nat × Int32 := if inR c 6 = true then (if (canS F n np c && decide (nq < 20)) = true then (0, nI nq) else (2, 0)) else (1, 0)
theorem canS_n {F : Nat → Nat → Int32} {n np k : Nat} {c : Int32} (hk : k < 4) (h : 0 < lkN F n np c k) : canS F n np c = false := by
  unfold canS
  rw [decide_eq_false]
  rintro ⟨h0, h1, h2, h3⟩
  rcases (show k = 0 ∨ k = 1 ∨ k = 2 ∨ k = 3 by omega) with rfl | rfl | rfl | rfl <;> omega
theorem canS_y {F : Nat → Nat → Int32} {n np : Nat} {c : Int32} (h : ∀ k, k < 4 → lkN F n np c k = 0) : canS F n np c = true := by
  unfold canS
  rw [decide_eq_true ⟨h 0 (by decide), h 1 (by decide), h 2 (by decide), h 3 (by decide)⟩]
