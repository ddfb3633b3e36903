/-! what a bench IS, and what each call answers and does to it, in words of its own: both the class and the reference are held against it -/
/-- kinds and holdings of the trays; the rows made, their kinds, sizes, contents (a number; 0 nothing, n a piece's number, -1 - r the row r); the pieces made, their sorts, their polish; the row that undo brings back, and what it was; FILLED; the counts -/
abbrev St : Type := (Nat → Nat) × (Nat → Int32) × Nat × (Nat → Nat) × (Nat → Nat) × (Nat → Nat → Int64) × Nat × (Nat → Nat) × (Nat → Int32) × Option Nat × (Nat → Int64) × Nat × (Nat → Int32)
abbrev sH (S : St) : Nat → Nat := S.1
abbrev sO (S : St) : Nat → Int32 := S.2.1
abbrev sN (S : St) : Nat := S.2.2.1
abbrev sK (S : St) : Nat → Nat := S.2.2.2.1
abbrev sZ (S : St) : Nat → Nat := S.2.2.2.2.1
abbrev sC (S : St) : Nat → Nat → Int64 := S.2.2.2.2.2.1
abbrev sP (S : St) : Nat := S.2.2.2.2.2.2.1
abbrev sS (S : St) : Nat → Nat := S.2.2.2.2.2.2.2.1
abbrev sL (S : St) : Nat → Int32 := S.2.2.2.2.2.2.2.2.1
abbrev sB (S : St) : Option Nat := S.2.2.2.2.2.2.2.2.2.1
abbrev sF (S : St) : Nat → Int64 := S.2.2.2.2.2.2.2.2.2.2.1
abbrev sI (S : St) : Nat := S.2.2.2.2.2.2.2.2.2.2.2.1
abbrev sT (S : St) : Nat → Int32 := S.2.2.2.2.2.2.2.2.2.2.2.2
abbrev mkS (a : Nat → Nat) (b : Nat → Int32) (n : Nat) (k z : Nat → Nat) (c : Nat → Nat → Int64) (p : Nat) (so : Nat → Nat) (po : Nat → Int32) (br : Option Nat) (bf : Nat → Int64) (fl : Nat) (t : Nat → Int32) : St := (a, b, n, k, z, c, p, so, po, br, bf, fl, t)
def wTr (S : St) (a : Nat → Nat) (b : Nat → Int32) : St := mkS a b (sN S) (sK S) (sZ S) (sC S) (sP S) (sS S) (sL S) (sB S) (sF S) (sI S) (sT S)
def wRC (S : St) (c : Nat → Nat → Int64) : St := mkS (sH S) (sO S) (sN S) (sK S) (sZ S) c (sP S) (sS S) (sL S) (sB S) (sF S) (sI S) (sT S)
def wPc (S : St) (p : Nat) (so : Nat → Nat) : St := mkS (sH S) (sO S) (sN S) (sK S) (sZ S) (sC S) p so (sL S) (sB S) (sF S) (sI S) (sT S)
def wPo (S : St) (po : Nat → Int32) : St := mkS (sH S) (sO S) (sN S) (sK S) (sZ S) (sC S) (sP S) (sS S) po (sB S) (sF S) (sI S) (sT S)
def wBf (S : St) (br : Option Nat) (bf : Nat → Int64) : St := mkS (sH S) (sO S) (sN S) (sK S) (sZ S) (sC S) (sP S) (sS S) (sL S) br bf (sI S) (sT S)
def wFl (S : St) (fl : Nat) : St := mkS (sH S) (sO S) (sN S) (sK S) (sZ S) (sC S) (sP S) (sS S) (sL S) (sB S) (sF S) fl (sT S)
def wCt (S : St) (t : Nat → Int32) : St := mkS (sH S) (sO S) (sN S) (sK S) (sZ S) (sC S) (sP S) (sS S) (sL S) (sB S) (sF S) (sI S) t
def s00 : St := mkS (fun _ => 0) (fun _ => 0) 0 (fun _ => 0) (fun _ => 0) (fun _ _ => 0) 0 (fun _ => 0) (fun _ => 0) none (fun _ => 0) 0 (fun _ => 0)
def cN (x : Int32) : Nat := x.toNatClampNeg
def pN (x : Int64) : Nat := x.toInt.toNat
def rN (x : Int64) : Nat := (-1 - x.toInt).toNat
def rowT (S : St) (t : Nat) : Nat := cN (sO S t)
def zT (S : St) (t : Nat) : Nat := if 2 ≤ sH S t then sZ S (rowT S t) else 0
/-- how many of the first n are so, ahead of the first that isn't -/
def ld (P : Nat → Bool) : Nat → Nat
  | 0 => 0
  | n + 1 => if ld P n = n ∧ P n = true then n + 1 else ld P n
theorem ld_le (P : Nat → Bool) (n : Nat) : ld P n ≤ n := by
  induction n with
  | zero => exact Nat.le_refl 0
  | succ n ih =>
    unfold ld
    split <;> omega
theorem ld_eq {P : Nat → Bool} {K : Nat} : ∀ {n : Nat}, K ≤ n → (∀ k, k < K → P k = true) → (K = n ∨ P K = false) → ld P n = K := by
  intro n
  induction n with
  | zero => intro h _ _; unfold ld; omega
  | succ n ih =>
    intro h h1 h2
    unfold ld
    by_cases hk : K = n + 1
    · have e : ld P n = n := by
        have : ∀ m, m ≤ n → ld P m = m := by
          intro m
          induction m with
          | zero => intro _; rfl
          | succ m im =>
            intro hm
            unfold ld
            rw [if_pos ⟨im (by omega), h1 m (by omega)⟩]
        exact this n (Nat.le_refl n)
      rw [if_pos ⟨e, h1 n (by omega)⟩]
      exact hk.symm
    · have h3 : P K = false := h2.resolve_left hk
      have e : ld P n = K := ih (by omega) h1 (Or.inr h3)
      rw [e]
      by_cases hn : K = n
      · rw [if_neg (fun q => by rw [← hn, h3] at q; cases q.2)]
      · rw [if_neg (fun q => hn q.1)]
theorem ld_all {P : Nat → Bool} : ∀ {n k : Nat}, k < ld P n → P k = true := by
  intro n
  induction n with
  | zero => intro k h; exact absurd h (Nat.not_lt_zero k)
  | succ n ih =>
    intro k h
    unfold ld at h
    split at h
    · rename_i q
      by_cases hk : k = n
      · rw [hk]; exact q.2
      · exact ih (by rw [q.1]; omega)
    · exact ih h
/-- does a thing go into a row of kind k -/
def gs (S : St) (k : Nat) (x : Int64) : Bool := isN k || (decide (x = 0) || (if k = 13 ∨ x < 0 then decide (k = 13) && decide (x < 0) else decide (k = 10) || (decide (k = 11) && decide (sS S (pN x) = 2) || decide (k = 12) && decide (3 ≤ sS S (pN x)))))
def nw (k : Nat) (v : Int32) : Int64 := if k = 2 then (if v = 0 then 0 else 1) else if k = 3 then v.toInt8.toInt32.toInt64 else if k = 4 then ((v.toUInt32 % 65536).toInt32).toInt64 else if k = 5 then v.toInt16.toInt32.toInt64 else if k = 8 then FP.f2l (FP.i2f v) else v.toInt64
def kin (k : Int32) : Bool := !decide (k < 2) && !decide (13 < k)
def sp_lay (S : St) (t k n : Int32) : Int32 × St := if (inP t 12 && (kin k && inP n 65)) = true then
    (n, mkS (va_up (sH S) (cN t) (cN k)) (va_up (sO S) (cN t) (nI (sN S))) (sN S + 1) (va_up (sK S) (sN S) (cN k)) (va_up (sZ S) (sN S) (cN n)) (va_up (sC S) (sN S) (fun _ => 0)) (sP S) (sS S) (sL S) (sB S) (sF S) (sI S) (sT S))
  else (-6, S)
def sp_ticket (S : St) (t w num : Int32) : Bool × St := if (inP t 12 && inP w 2) = true then (true, wTr S (va_up (sH S) (cN t) (cN w)) (va_up (sO S) (cN t) (if w = 1 then num else 0))) else (false, S)
def sp_share (S : St) (a t : Int32) : Int32 × St := if (inP a 12 && inP t 12) = true then (nI (sH S (cN a)), wTr S (va_up (sH S) (cN t) (sH S (cN a))) (va_up (sO S) (cN t) (sO S (cN a)))) else (-6, S)
def md5 (v : Int32) : Nat := (v.toInt % 5).toNat
def mkP (S : St) (v : Int32) : Int64 × St := if md5 v = 0 then (0, S) else (lN (sP S + 1), wPc S (sP S + 1) (va_up (sS S) (sP S + 1) (md5 v)))
def thg (S : St) (k : Nat) (v : Int32) : Int64 × St := if isN k = true then (nw k v, S) else if k = 13 then (if (inP v 12 && decide (sH S (cN v) = 6)) = true then -1 - (sO S (cN v)).toInt64 else 0, S) else mkP S v
def pRC (S : St) (r i : Nat) (x : Int64) : St := wRC S (va_up (sC S) r (va_up (sC S r) i x))
def put1 (S : St) (t : Nat) (i : Int32) (x : Int64) : Int32 × St := if inP i (zT S t) = false then (-4, S) else if gs S (sH S t) x = false then (-3, S) else (1, pRC S (rowT S t) (cN i) x)
def sp_put (S : St) (t i v : Int32) : Int32 × St := if inP t 12 = false then (-6, S) else if sH S (cN t) < 2 then (fR (sH S (cN t)), S) else put1 (thg S (sH S (cN t)) v).2 (cN t) i (thg S (sH S (cN t)) v).1
def kep (S : St) (t : Nat) : St := if 2 ≤ sH S t then wBf S (some (rowT S t)) (sC S (rowT S t)) else wBf S none (sF S)
def unl (S : St) (a b : Nat) : Int32 := if sH S a = 0 ∨ sH S b = 0 then -1 else if sH S a = 1 ∨ sH S b = 1 then -2 else if (isN (sH S a) || isN (sH S b)) = true ∧ sH S a ≠ sH S b then -3 else 0
def mvK (S : St) (a p b n : Nat) : Nat := ld (fun k => gs S (sH S b) (sC S (rowT S a) (p + k))) n
def mvR (S : St) (a p b q K : Nat) : St := wRC S (va_up (sC S) (rowT S b) (fun j => if q ≤ j ∧ j < q + K then sC S (rowT S a) (p + (j - q)) else sC S (rowT S b) j))
def movd (S : St) (a : Nat) (p : Int32) (b : Nat) (q n : Int32) : Int32 × St := if ¬ unl S a b = 0 then (unl S a b, wFl S 0) else if (hpl p n (zT S a) && hpl q n (zT S b)) = false then (-4, wFl S 0) else
  (if mvK S a (cN p) b (cN n) < cN n then -5 else n, wFl (mvR S a (cN p) b (cN q) (mvK S a (cN p) b (cN n))) (mvK S a (cN p) b (cN n)))
def tix (x : Int32) : Nat := if x < 0 then cN (-x) else 0
def tell (S : St) (x : Int32) : St := wCt S (va_up (sT S) (tix x) (sT S (tix x) + 1))
def sp_move (S : St) (a p b q n : Int32) : Int32 × St := if (inP a 12 && inP b 12) = false then (-6, S) else ((movd (kep S (cN b)) (cN a) p (cN b) q n).1, tell (movd (kep S (cN b)) (cN a) p (cN b) q n).2 (movd (kep S (cN b)) (cN a) p (cN b) q n).1)
def sp_open (S : St) (t i n : Int32) : Int32 × St := if inP t 12 = false then (-6, S) else sp_move S t i t (i + n) (nI (zT S (cN t)) - i - n)
def sp_close (S : St) (t i n : Int32) : Int32 × St := if inP t 12 = false then (-6, S) else sp_move S t (i + n) t i (nI (zT S (cN t)) - i - n)
def tiK (k : Int32) (m i : Nat) : Nat := ((k.toInt + (i : Int)) % (m : Int)).toNat
def turn1 (S : St) (t : Nat) (k : Int32) : Int32 × St := if sH S t < 2 then (fR (sH S t), tell (kep S t) (fR (sH S t))) else
  (nI (zT S t), tell (wRC (kep S t) (va_up (sC S) (rowT S t) (fun i => sC S (rowT S t) (tiK k (zT S t) i)))) (nI (zT S t)))
def sp_turn (S : St) (t k : Int32) : Int32 × St := if inP t 12 = false then (-6, S) else turn1 S (cN t) k
def spr1 (S : St) (t : Nat) (n : Int32) : Int32 × St := if sH S t < 2 then (fR (sH S t), tell (kep S t) (fR (sH S t))) else if (!decide (n < 1) && !decide (nI (zT S t) < n)) = false then (-4, tell (kep S t) (-4)) else
  (nI (zT S t), tell (wRC (kep S t) (va_up (sC S) (rowT S t) (fun i => sC S (rowT S t) (if i < cN n then i else i % cN n)))) (nI (zT S t)))
def sp_spread (S : St) (t n : Int32) : Int32 × St := if inP t 12 = false then (-6, S) else spr1 S (cN t) n
def sp_undo (S : St) : Int32 × St := match sB S with
  | none => (-1, S)
  | some r => (nI (sZ S r), wBf (wRC S (va_up (sC S) r (sF S))) none (sF S))
def mat1 (S : St) (a : Nat) (p : Int32) (b : Nat) (q n : Int32) : Int32 := if ¬ unl S a b = 0 then unl S a b else if (!decide (n < 0) && (inP p (zT S a + 1) && inP q (zT S b + 1))) = false then -4 else
  nI (ld (fun j => decide (sC S (rowT S a) (cN p + j) = sC S (rowT S b) (cN q + j))) (min (cN n) (min (zT S a - cN p) (zT S b - cN q))))
def sp_match (S : St) (a p b q n : Int32) : Int32 := if (inP a 12 && inP b 12) = false then -6 else mat1 S (cN a) p (cN b) q n
def atx (S : St) (t : Nat) (i : Int32) : Int64 := sC S (rowT S t) (cN i)
def pol1 (S : St) (t : Nat) (i more : Int32) : Int32 × St := if sH S t < 2 then (fR (sH S t), S) else if (isN (sH S t) || decide (sH S t = 13)) = true then (-3, S) else if inP i (zT S t) = false then (-4, S) else if atx S t i = 0 then (-1, S) else
  (nI (pN (atx S t i)), wPo S (va_up (sL S) (pN (atx S t i)) (sL S (pN (atx S t i)) + more)))
def sp_polish (S : St) (t i more : Int32) : Int32 × St := if inP t 12 = false then (-6, S) else pol1 S (cN t) i more
def sp_tray (S : St) (t w : Int32) : Int32 := if (inP t 12 && inP w 2) = false then -6 else if w = 0 then nI (sH S (cN t)) else if sH S (cN t) = 1 then sO S (cN t) else nI (zT S (cN t))
def wha1 (S : St) (t : Nat) (i : Int32) : Int32 := if sH S t < 2 then fR (sH S t) else if inP i (zT S t) = false then -4 else if isN (sH S t) = true then 1 else if atx S t i = 0 then 0 else if atx S t i < 0 then 6 else nI (sS S (pN (atx S t i)) + 1)
def sp_what (S : St) (t i : Int32) : Int32 := if inP t 12 = false then -6 else wha1 S (cN t) i
def at1 (S : St) (t : Nat) (i : Int32) : Int64 := if inP i (zT S t) = false then 0 else if isN (sH S t) = true then atx S t i else if atx S t i = 0 then 0 else if atx S t i < 0 then lN (sZ S (rN (atx S t i))) else atx S t i
def sp_at (S : St) (t i : Int32) : Int64 := if inP t 12 = false then 0 else at1 S (cN t) i
def sumW (f : Nat → Int64) : Nat → Int32
  | 0 => 0
  | n + 1 => sumW f n + (f n).toInt32
def pod1 (S : St) (t : Nat) (i : Int32) : Int32 := if inP i (zT S t) = false then 0 else if isN (sH S t) = true then 0 else if atx S t i = 0 then 0 else if atx S t i < 0 then sumW (sC S (rN (atx S t i))) (sZ S (rN (atx S t i))) else sL S (pN (atx S t i))
def sp_polished (S : St) (t i : Int32) : Int32 := if inP t 12 = false then 0 else pod1 S (cN t) i
def sp_told (S : St) (w : Int32) : Int32 := if w = 0 then nI (sI S) else if (!decide (w < 1) && !decide (6 < w)) = true then sT S (cN w - 1) else if w = 7 then nI (sP S) else -6
/-- what may lie at a place of a row of kind k -/
def val (S : St) (k : Nat) (x : Int64) : Prop := k ≤ 9 ∨ x = 0 ∨ (10 ≤ k ∧ k ≤ 12 ∧ ∃ p, 1 ≤ p ∧ p ≤ sP S ∧ x = lN p) ∨ (k = 13 ∧ ∃ r, r < sN S ∧ sK S r = 6 ∧ x = -1 - lN r)
/-- what holds of a bench behind c calls -/
def Inv (c : Nat) (S : St) : Prop := sN S ≤ c ∧ sP S ≤ c ∧ c ≤ 512 ∧ (∀ r, r < sN S → 2 ≤ sK S r ∧ sK S r ≤ 13 ∧ sZ S r ≤ 64 ∧ ∀ i, i < sZ S r → val S (sK S r) (sC S r i)) ∧ (∀ k, 1 ≤ k → k ≤ sP S → 1 ≤ sS S k ∧ sS S k ≤ 4) ∧ (∀ k, sP S < k → sL S k = 0) ∧
  (∀ t, t < 12 → sH S t ≤ 13 ∧ (2 ≤ sH S t → ∃ r, r < sN S ∧ sO S t = nI r ∧ sK S r = sH S t)) ∧ (∀ r, sB S = some r → r < sN S ∧ ∀ i, i < sZ S r → val S (sK S r) (sF S i)) ∧ sI S ≤ 64
theorem cN_nI {n : Nat} (h : n < 2 ^ 31) : cN (nI n) = n := nI_clamp h
theorem lN_inj {a b : Nat} (ha : a < 2 ^ 31) (hb : b < 2 ^ 31) (h : lN a = lN b) : a = b := (lN_eq ha hb).mp h
theorem lN_pN {p : Nat} (h : p < 2 ^ 31) : pN (lN p) = p := by
  unfold pN
  rw [lN_toInt h]
  exact Int.toNat_natCast p
theorem lN_nn {p : Nat} (h : p < 2 ^ 31) : ¬ lN p < 0 := by
  rw [show (0 : Int64) = lN 0 from rfl, lN_lt h (by decide)]
  omega
theorem neg_toInt {r : Nat} (h : r < 2 ^ 31) : (-1 - lN r : Int64).toInt = -1 - (r : Int) := by
  rw [Int64.toInt_sub, lN_toInt h, show (-1 : Int64).toInt = -1 from rfl]
  rw [Int.bmod_eq_of_le] <;> omega
theorem neg_rN {r : Nat} (h : r < 2 ^ 31) : rN (-1 - lN r) = r := by
  unfold rN
  rw [neg_toInt h]
  omega
theorem neg_lt {r : Nat} (h : r < 2 ^ 31) : (-1 - lN r : Int64) < 0 := by
  rw [Int64.lt_iff_toInt_lt, neg_toInt h]
  show _ < (0 : Int)
  omega
theorem neg_ne {r : Nat} (h : r < 2 ^ 31) : ¬ (-1 - lN r : Int64) = 0 := fun e => by
  have := neg_toInt h
  rw [e] at this
  have h0 : (0 : Int64).toInt = 0 := rfl
  omega
theorem lN_ne {p : Nat} (h : p < 2 ^ 31) (h1 : 1 ≤ p) : ¬ lN p = 0 := fun e => by
  have := lN_inj h (by decide : (0 : Nat) < 2 ^ 31) e
  omega
