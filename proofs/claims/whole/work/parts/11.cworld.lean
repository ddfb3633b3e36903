/-! the class's world: where the bench's things lie, and that the map holds them -/
abbrev Ad : Type := Nat × Nat × Nat × Nat × (Nat → Nat) × (Nat → Nat) × (Nat → Nat) × (Nat → Nat)
abbrev xN (A : Ad) : Nat := A.1
abbrev xT (A : Ad) : Nat := A.2.1
abbrev xB (A : Ad) : Nat := A.2.2.1
abbrev xY (A : Ad) : Nat := A.2.2.2.1
abbrev xr (A : Ad) : Nat → Nat := A.2.2.2.2.1
abbrev xn (A : Ad) : Nat → Nat := A.2.2.2.2.2.1
abbrev xt (A : Ad) : Nat → Nat := A.2.2.2.2.2.2.1
abbrev xp (A : Ad) : Nat → Nat := A.2.2.2.2.2.2.2
def zz (S : St) (j : Nat) : Nat := if j = 0 then 64 else sZ S (j - 1)
abbrev bF (A : Ad) (S : St) : List Value := [.ref (xN A), .ref (xT A), .ref (xB A), va_rf ((sB S).map (xr A)), .ref (xY A), .int (nI (sI S)), .int (nI (sP S))]
/-- a cell of a thing: a row or a piece -/
def isTh (A : Ad) (S : St) (z : Nat) : Prop := (∃ r, r < sN S ∧ z = xr A r) ∨ ∃ k, 1 ≤ k ∧ k ≤ sP S ∧ z = xp A k
def trOK (A : Ad) (tr : Nat → Nat) (S : St) (M : mp) : Prop := ∀ t, t < 12 → (sH S t = 0 ∧ tr t = xN A) ∨ (sH S t = 1 ∧ ∃ a b, M (tr t) = some (eO 0 (hF 1 0 (sO S t) a b))) ∨ (2 ≤ sH S t ∧ ∃ r, r < sN S ∧ sO S t = nI r ∧ sK S r = sH S t ∧ tr t = xr A r)
/-- the parts of the map that never change, or by their own calls alone -/
def CW1 (y : mY) (h0 : Nat) (A : Ad) (tr : Nat → Nat) (S : St) (M : mp) : Prop :=
  M h0 = some (eO 2 (bF A S)) ∧ (∃ a b, M (xN A) = some (eO 0 (hF 0 0 0 a b))) ∧ M (xT A) = some (eH y 12 (fun t => some (tr t))) ∧ M (xB A) = some (eO 0 (hF 0 64 0 (xn A 0) (xt A 0))) ∧ M (xY A) = some (eI y 6 (sT S)) ∧
  (∀ r, r < sN S → M (xr A r) = some (eO 0 (hF (sK S r) (sZ S r) 0 (xn A (r + 1)) (xt A (r + 1))))) ∧ (∀ k, 1 ≤ k → k ≤ sP S → M (xp A k) = some (eO 1 [.int (nI (sS S k + 1)), .int (nI k), .int (sL S k)])) ∧ trOK A tr S M
/-- the rows' arrays: row r's are number r + 1, what undo brings back is number 0 -/
def CW2 (y : mY) (A : Ad) (f : Nat → Nat → Int64) (g : Nat → Nat → Option Nat) (S : St) (M : mp) : Prop :=
  (∀ j, j ≤ sN S → M (xn A j) = some (eL y (zz S j) (f j))) ∧ (∀ j, j ≤ sN S → M (xt A j) = some (eT y (zz S j) (g j))) ∧ (∀ j i z, j ≤ sN S → i < zz S j → g j i = some z → isTh A S z)
def CW3 (A : Ad) (S : St) : Prop := (∀ i j, i ≤ sN S → j ≤ sN S → xn A i = xn A j → i = j) ∧ (∀ i j, i ≤ sN S → j ≤ sN S → xt A i = xt A j → i = j) ∧ (∀ j, j ≤ sN S → xt A j ≠ xT A) ∧ (∀ i j, i < sN S → j < sN S → xr A i = xr A j → i = j) ∧ (∀ i j, 1 ≤ i → i ≤ sP S → 1 ≤ j → j ≤ sP S → xp A i = xp A j → i = j)
def CW (y : mY) (h0 : Nat) (A : Ad) (tr : Nat → Nat) (f : Nat → Nat → Int64) (g : Nat → Nat → Option Nat) (S : St) (M : mp) : Prop := CW1 y h0 A tr S M ∧ CW2 y A f g S M ∧ CW3 A S
def nu (k : Nat) (x : Int64) : Int64 := if k ≤ 9 then x else 0
def th (A : Ad) (k : Nat) (x : Int64) : Option Nat := if k ≤ 9 then none else if x = 0 then none else if x < 0 then some (xr A (rN x)) else some (xp A (pN x))
def CR (A : Ad) (f : Nat → Nat → Int64) (g : Nat → Nat → Option Nat) (S : St) : Prop := (∀ r i, r < sN S → i < sZ S r → f (r + 1) i = nu (sK S r) (sC S r i) ∧ g (r + 1) i = th A (sK S r) (sC S r i)) ∧ (∀ r i, sB S = some r → i < sZ S r → f 0 i = nu (sK S r) (sF S i) ∧ g 0 i = th A (sK S r) (sF S i))
def RC (y : mY) (h0 : Nat) (S : St) (M : mp) : Prop := ∃ (A : Ad) (tr : Nat → Nat) (f : Nat → Nat → Int64) (g : Nat → Nat → Option Nat), CW y h0 A tr f g S M ∧ CR A f g S
def up2 {α : Type} (f : Nat → Nat → α) (a i : Nat) (v : α) : Nat → Nat → α := va_up f a (va_up (f a) i v)
theorem up2_s {α : Type} {f : Nat → Nat → α} {a i : Nat} {v : α} : up2 f a i v a i = v := by simp [up2, va_up]
theorem up2_o {α : Type} {f : Nat → Nat → α} {a i b j : Nat} {v : α} (h : b ≠ a ∨ j ≠ i) : up2 f a i v b j = f b j := by
  unfold up2 va_up
  by_cases hb : b = a
  · subst hb
    have hj : j ≠ i := h.resolve_left (fun q => q rfl)
    simp [hj]
  · simp [hb]
theorem zz_le {c : Nat} {S : St} (hI : Inv c S) {j : Nat} (hj : j ≤ sN S) : zz S j ≤ 64 := by
  unfold zz
  split
  · omega
  · exact (hI.2.2.2.1 (j - 1) (by omega)).2.2.1
theorem zz_s (S : St) (r : Nat) : zz S (r + 1) = sZ S r := by
  unfold zz
  rw [if_neg (by omega)]
  rfl
theorem zz_0 (S : St) : zz S 0 = 64 := rfl
section CWK
variable {y : mY} {h0 : Nat} {A : Ad} {tr : Nat → Nat} {f : Nat → Nat → Int64} {g : Nat → Nat → Option Nat} {S : St} {M M1 : mp}
/-- a thing's cell -/
theorem CW1.th (h : CW1 y h0 A tr S M) {z : Nat} (hz : isTh A S z) : (∃ vs, M z = some (eO 0 vs)) ∨ ∃ vs, M z = some (eO 1 vs) := by
  rcases hz with ⟨r, hr, rfl⟩ | ⟨k, h1, h2, rfl⟩
  · exact Or.inl ⟨_, h.2.2.2.2.2.1 r hr⟩
  · exact Or.inr ⟨_, h.2.2.2.2.2.2.1 k h1 h2⟩
/-- the first part stays where the map changes at an array that isn't one of its own -/
theorem CW1.arr (h : CW1 y h0 A tr S M) {a : Nat} {e : va_E} (hO : ∀ ci fs, M a ≠ some (eO ci fs)) (hT : a ≠ xT A) (hY : a ≠ xY A) : CW1 y h0 A tr S (mu M a e) := by
  obtain ⟨h1, ⟨a2, b2, h2⟩, h3, h4, h5, h6, h7, h8⟩ := h
  have k : ∀ {q ci : Nat} {fs : List Value}, M q = some (eO ci fs) → mu M a e q = some (eO ci fs) := fun hq => mu_k (fun e1 => hO _ _ (by rw [← e1]; exact hq)) hq
  refine ⟨k h1, ⟨a2, b2, k h2⟩, mu_k (Ne.symm hT) h3, k h4, mu_k (Ne.symm hY) h5, fun r hr => k (h6 r hr), fun p p1 p2 => k (h7 p p1 p2), fun t ht => ?_⟩
  rcases h8 t ht with q | ⟨q, a3, b3, q3⟩ | q
  · exact Or.inl q
  · exact Or.inr (Or.inl ⟨q, a3, b3, k q3⟩)
  · exact Or.inr (Or.inr q)
/-- place i of row a gets x and v -/
theorem CW.set (h : CW y h0 A tr f g S M) {a i : Nat} {x : Int64} {v : Option Nat} (ha : a ≤ sN S) (hi : i < zz S a) (hv : ∀ z, v = some z → isTh A S z) : CW y h0 A tr (up2 f a i x) (up2 g a i v) S (mu (mu M (xn A a) (eL y (zz S a) (va_up (f a) i x))) (xt A a) (eT y (zz S a) (va_up (g a) i v))) := by
  obtain ⟨h1, ⟨h2, h3, h4⟩, h5⟩ := h
  have ea := h2 a ha
  have eb := h3 a ha
  have eb' : mu M (xn A a) (eL y (zz S a) (va_up (f a) i x)) (xt A a) = some (eT y (zz S a) (g a)) := mu_k (m_ne eb ea ne_TL) eb
  have hnt : ∀ q, q ≤ sN S → xn A q ≠ xt A a := fun q hq => m_ne (h2 q hq) eb ne_LT
  have htn : ∀ q, q ≤ sN S → xt A q ≠ xn A a := fun q hq => m_ne (h3 q hq) ea ne_TL
  refine ⟨(h1.arr (fun _ _ e => by rw [ea] at e; simp at e) (m_ne ea h1.2.2.1 ne_LH) (m_ne ea h1.2.2.2.2.1 ne_LI)).arr (fun _ _ e => by rw [eb'] at e; simp at e) (h5.2.2.1 a ha) (m_ne eb h1.2.2.2.2.1 ne_TI), ⟨fun q hq => ?_, fun q hq => ?_, fun q k z hq hk hz => ?_⟩, h5⟩
  · rw [mu_n (hnt q hq)]
    by_cases e : q = a
    · rw [e, mu_s]
      simp [up2, va_up]
    · rw [mu_n (fun e1 => e (h5.1 q a hq ha e1)), h2 q hq]
      simp [up2, va_up, e]
  · by_cases e : q = a
    · rw [e, mu_s]
      simp [up2, va_up]
    · rw [mu_n (fun e1 => e (h5.2.1 q a hq ha e1)), mu_n (htn q hq), h3 q hq]
      simp [up2, va_up, e]
  · by_cases e : q = a ∧ k = i
    · rw [e.1, e.2, up2_s] at hz
      exact hv z hz
    · rw [up2_o (by omega)] at hz
      exact h4 q k z hq hk hz
/-- place i of row a gets what is at place j of row b -/
theorem CW.copy (h : CW y h0 A tr f g S M) {a b i j : Nat} (ha : a ≤ sN S) (hb : b ≤ sN S) (hi : i < zz S a) (hj : j < zz S b) : CW y h0 A tr (up2 f a i (f b j)) (up2 g a i (g b j)) S (mu (mu M (xn A a) (eL y (zz S a) (va_up (f a) i (f b j)))) (xt A a) (eT y (zz S a) (va_up (g a) i (g b j)))) :=
  h.set ha hi (fun z hz => h.2.1.2.2 b j z hb hj hz)
end CWK
/-- a thing's number in the map: 0 nothing, a piece's, or a row's -/
theorem th_ok {c : Nat} {y : mY} {h0 : Nat} {A : Ad} {tr : Nat → Nat} {S : St} {M : mp} (hI : Inv c S) (h1 : CW1 y h0 A tr S M) {k : Nat} {x : Int64} (hv : val S k x) (z : Nat) (hz : th A k x = some z) : isTh A S z := by
  unfold th at hz
  split at hz
  · cases hz
  · split at hz
    · cases hz
    · rename_i hk hx
      rcases hv with q | q | ⟨-, -, p, p1, p2, rfl⟩ | ⟨-, r, hr, -, rfl⟩
      · exact absurd q hk
      · exact absurd q hx
      · have hp : p < 2 ^ 31 := by have := hI.2.1; have := hI.2.2.1; omega
        rw [if_neg (lN_nn hp), lN_pN hp] at hz
        cases hz
        exact Or.inr ⟨p, p1, p2, rfl⟩
      · have hr2 : r < 2 ^ 31 := by have := hI.1; have := hI.2.2.1; omega
        rw [if_pos (neg_lt hr2), neg_rN hr2] at hz
        cases hz
        exact Or.inl ⟨r, hr, rfl⟩
/-- what lies there, as 'accepts' looks at it: into a row of kind kb it goes just as the spec says -/
def srt (S : St) (k : Nat) (x : Int64) : Option Nat := if k ≤ 9 then none else if x = 0 then none else if x < 0 then some 6 else some (sS S (pN x) + 1)
theorem th_srt {c : Nat} {y : mY} {h0 : Nat} {A : Ad} {tr : Nat → Nat} {S : St} {M : mp} (hI : Inv c S) (h1 : CW1 y h0 A tr S M) {k : Nat} {x : Int64} (hv : val S k x) : thS M (th A k x) (srt S k x) := by
  unfold th srt
  by_cases hk : k ≤ 9
  · rw [if_pos hk, if_pos hk]
    exact Or.inl ⟨rfl, rfl⟩
  · rw [if_neg hk, if_neg hk]
    by_cases hx : x = 0
    · rw [if_pos hx, if_pos hx]
      exact Or.inl ⟨rfl, rfl⟩
    · rw [if_neg hx, if_neg hx]
      rcases hv with q | q | ⟨-, -, p, p1, p2, rfl⟩ | ⟨-, r, hr, -, rfl⟩
      · exact absurd q hk
      · exact absurd q hx
      · have hp : p < 2 ^ 31 := by have := hI.2.1; have := hI.2.2.1; omega
        rw [if_neg (lN_nn hp), if_neg (lN_nn hp), lN_pN hp]
        have h2 := hI.2.2.2.2.1 p p1 p2
        exact Or.inr ⟨_, _, rfl, rfl, Or.inr ⟨_, _, by omega, h1.2.2.2.2.2.2.1 p p1 p2⟩⟩
      · have hr2 : r < 2 ^ 31 := by have := hI.1; have := hI.2.2.1; omega
        rw [if_pos (neg_lt hr2), if_pos (neg_lt hr2), neg_rN hr2]
        exact Or.inr ⟨_, _, rfl, rfl, Or.inl ⟨rfl, _, h1.2.2.2.2.2.1 r hr⟩⟩
/-- 'accepts' is the spec's 'goes', where the two rows are alike in kind -/
theorem acc_gs {c : Nat} {S : St} (hI : Inv c S) {k kb : Nat} {x : Int64} (hv : val S k x) (hkb : 2 ≤ kb ∧ kb ≤ 13) (hk : 2 ≤ k) (hu : ¬ ((isN k || isN kb) = true ∧ k ≠ kb)) : acc kb (srt S k x) = gs S kb x := by
  by_cases hn : isN kb = true
  · have e : k = kb := Classical.byContradiction fun q => hu ⟨by simp [hn], q⟩
    subst e
    have h9 : k ≤ 9 := by unfold isN at hn; simp at hn; exact hn.2
    unfold srt gs
    rw [if_pos h9, hn]
    rfl
  · have hn' : isN kb = false := by simpa using hn
    have hk9 : ¬ k ≤ 9 := by
      intro h9
      have : isN k = true := by unfold isN; simp; omega
      by_cases e : k = kb
      · rw [← e] at hn; exact hn this
      · exact hu ⟨by simp [this], e⟩
    have hb10 : 10 ≤ kb := by
      unfold isN at hn'
      simp at hn'
      omega
    unfold srt gs
    rw [if_neg hk9, hn']
    by_cases hx : x = 0
    · rw [if_pos hx]; simp [hx, acc]
    · rw [if_neg hx]
      rcases hv with q | q | ⟨-, -, p, p1, p2, rfl⟩ | ⟨-, r, hr, -, rfl⟩
      · exact absurd q hk9
      · exact absurd q hx
      · have hp : p < 2 ^ 31 := by have := hI.2.1; have := hI.2.2.1; omega
        have h2 := hI.2.2.2.2.1 p p1 p2
        rw [if_neg (lN_nn hp), lN_pN hp]
        have hl := lN_nn hp
        rcases (show kb = 10 ∨ kb = 11 ∨ kb = 12 ∨ kb = 13 by omega) with rfl | rfl | rfl | rfl
        · simp [acc, hl, hx]; omega
        · simp [acc, hl, hx]
        · simp [acc, hl, hx]
          rcases (show sS S p = 1 ∨ sS S p = 2 ∨ sS S p = 3 ∨ sS S p = 4 by omega) with q | q | q | q <;> rw [q] <;> decide
        · simp [acc, hl, hx]; omega
      · have hr2 : r < 2 ^ 31 := by have := hI.1; have := hI.2.2.1; omega
        have hl := neg_lt hr2
        rw [if_pos hl]
        rcases (show kb = 10 ∨ kb = 11 ∨ kb = 12 ∨ kb = 13 by omega) with rfl | rfl | rfl | rfl <;> simp [acc, hl, hx]
