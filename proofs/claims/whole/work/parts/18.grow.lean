/-! the class's world grows: new cells, a new row, a new piece, a tray that gets another holding -/
def mle (M M1 : mp) : Prop := ∀ a e, M a = some e → M1 a = some e
theorem mle_new {M : mp} {q : Nat} {e : va_E} (h : M q = none) : mle M (mu M q e) := fun a x hx => mu_k (m_fr hx h) hx
theorem mle.trans {M M1 M2 : mp} (h : mle M M1) (h2 : mle M1 M2) : mle M M2 := fun a e x => h2 a e (h a e x)
section GRW
variable {y : mY} {h0 : Nat} {A : Ad} {tr : Nat → Nat} {f : Nat → Nat → Int64} {g : Nat → Nat → Option Nat} {S : St} {M M1 : mp}
theorem CW.mono (h : CW y h0 A tr f g S M) (hm : mle M M1) : CW y h0 A tr f g S M1 := by
  obtain ⟨⟨h1, ⟨a2, b2, h2⟩, h3, h4, h5, h6, h7, h8⟩, ⟨k1, k2, k3⟩, h9⟩ := h
  refine ⟨⟨hm _ _ h1, ⟨a2, b2, hm _ _ h2⟩, hm _ _ h3, hm _ _ h4, hm _ _ h5, fun r hr => hm _ _ (h6 r hr), fun q q1 q2 => hm _ _ (h7 q q1 q2), fun t ht => ?_⟩, ⟨fun j hj => hm _ _ (k1 j hj), fun j hj => hm _ _ (k2 j hj), k3⟩, h9⟩
  rcases h8 t ht with q | ⟨q, a3, b3, q3⟩ | q
  · exact Or.inl q
  · exact Or.inr (Or.inl ⟨q, a3, b3, hm _ _ q3⟩)
  · exact Or.inr (Or.inr q)
abbrev adRow (A : Ad) (n q qL qT : Nat) : Ad := (xN A, xT A, xB A, xY A, va_up (xr A) n q, va_up (xn A) (n + 1) qL, va_up (xt A) (n + 1) qT, xp A)
abbrev adPc (A : Ad) (n q : Nat) : Ad := (xN A, xT A, xB A, xY A, xr A, xn A, xt A, va_up (xp A) n q)
def wRow (S : St) (k n : Nat) : St := mkS (sH S) (sO S) (sN S + 1) (va_up (sK S) (sN S) k) (va_up (sZ S) (sN S) n) (va_up (sC S) (sN S) (fun _ => 0)) (sP S) (sS S) (sL S) (sB S) (sF S) (sI S) (sT S)
theorem va_ups {α : Type} {f : Nat → α} {k : Nat} {v : α} : va_up f k v k = v := by simp [va_up]
theorem va_upo {α : Type} {f : Nat → α} {k j : Nat} {v : α} (h : j ≠ k) : va_up f k v j = f j := by simp [va_up, h]
theorem CW.row {c0 : Nat} (hI : Inv c0 S) (h : CW y h0 A tr f g S M) {k n q qL qT : Nat} (hq : M q = some (eO 0 (hF k n 0 qL qT))) (hL : M qL = some (eL y n (fun _ => 0))) (hT : M qT = some (eT y n (fun _ => none))) (dq : ∀ r, r < sN S → xr A r ≠ q) (dL : ∀ j, j ≤ sN S → xn A j ≠ qL) (dT : ∀ j, j ≤ sN S → xt A j ≠ qT) (dX : qT ≠ xT A) : CW y h0 (adRow A (sN S) q qL qT) tr (va_up f (sN S + 1) (fun _ => 0)) (va_up g (sN S + 1) (fun _ => none)) (wRow S k n) M := by
  obtain ⟨⟨h1, h2, h3, h4, h5, h6, h7, h8⟩, ⟨k1, k2, k3⟩, d1, d2, d3, d4, d5⟩ := h
  have n0 : ∀ j, j ≤ sN S → j ≠ sN S + 1 := fun j hj => by omega
  have ez : ∀ j, j ≤ sN S → zz (wRow S k n) j = zz S j := by
    intro j hj
    unfold zz
    by_cases e : j = 0
    · rw [if_pos e, if_pos e]
    · rw [if_neg e, if_neg e]
      exact va_upo (by omega)
  have ez2 : zz (wRow S k n) (sN S + 1) = n := (zz_s _ _).trans va_ups
  have th1 : ∀ z, isTh A S z → isTh (adRow A (sN S) q qL qT) (wRow S k n) z := by
    intro z hz
    rcases hz with ⟨r, hr, e⟩ | hz
    · exact Or.inl ⟨r, Nat.lt_succ_of_lt hr, by rw [e]; exact (va_upo (by omega)).symm⟩
    · exact Or.inr hz
  refine ⟨⟨?_, h2, h3, ?_, h5, fun r hr => ?_, h7, fun t ht => ?_⟩, ⟨fun j hj => ?_, fun j hj => ?_, fun j i z hj hi hz => ?_⟩, fun i j hi hj e => ?_, fun i j hi hj e => ?_, fun j hj => ?_, fun i j hi hj e => ?_, d5⟩
  · have : bF (adRow A (sN S) q qL qT) (wRow S k n) = bF A S := by
      show [_, _, _, va_rf ((sB S).map (va_up (xr A) (sN S) q)), _, _, _] = [_, _, _, va_rf ((sB S).map (xr A)), _, _, _]
      cases hb : sB S with
      | none => rfl
      | some r =>
        have hr := (hI.2.2.2.2.2.2.2.1 r hb).1
        show [_, _, _, Value.ref (va_up (xr A) (sN S) q r), _, _, _] = [_, _, _, Value.ref (xr A r), _, _, _]
        rw [va_upo (by omega)]
        rfl
    rw [this]
    exact h1
  · show M (xB A) = some (eO 0 (hF 0 64 0 (va_up (xn A) (sN S + 1) qL 0) (va_up (xt A) (sN S + 1) qT 0)))
    rw [va_upo (by omega), va_upo (by omega)]
    exact h4
  · have hr : r < sN S + 1 := hr
    show M (va_up (xr A) (sN S) q r) = some (eO 0 (hF (va_up (sK S) (sN S) k r) (va_up (sZ S) (sN S) n r) 0 (va_up (xn A) (sN S + 1) qL (r + 1)) (va_up (xt A) (sN S + 1) qT (r + 1))))
    by_cases e : r = sN S
    · rw [e, va_ups, va_ups, va_ups, va_ups, va_ups]
      exact hq
    · rw [va_upo e, va_upo e, va_upo e, va_upo (by omega), va_upo (by omega)]
      exact h6 r (by omega)
  · rcases h8 t ht with q9 | q9 | ⟨q9, r, hr, e1, e2, e3⟩
    · exact Or.inl q9
    · exact Or.inr (Or.inl q9)
    · exact Or.inr (Or.inr ⟨q9, r, Nat.lt_succ_of_lt hr, e1, (va_upo (by omega)).trans e2, e3.trans (va_upo (by omega)).symm⟩)
  · have hj : j ≤ sN S + 1 := hj
    show M (va_up (xn A) (sN S + 1) qL j) = some (eL y (zz (wRow S k n) j) (va_up f (sN S + 1) (fun _ => 0) j))
    by_cases e : j = sN S + 1
    · rw [e, va_ups, va_ups, ez2]; exact hL
    · rw [va_upo e, va_upo e, ez j (by omega)]; exact k1 j (by omega)
  · have hj : j ≤ sN S + 1 := hj
    show M (va_up (xt A) (sN S + 1) qT j) = some (eT y (zz (wRow S k n) j) (va_up g (sN S + 1) (fun _ => none) j))
    by_cases e : j = sN S + 1
    · rw [e, va_ups, va_ups, ez2]; exact hT
    · rw [va_upo e, va_upo e, ez j (by omega)]; exact k2 j (by omega)
  · have hj : j ≤ sN S + 1 := hj
    by_cases e : j = sN S + 1
    · rw [e, va_ups] at hz; cases hz
    · rw [va_upo e] at hz
      rw [ez j (by omega)] at hi
      exact th1 z (k3 j i z (by omega) hi hz)
  · have hi : i ≤ sN S + 1 := hi
    have hj : j ≤ sN S + 1 := hj
    have e : va_up (xn A) (sN S + 1) qL i = va_up (xn A) (sN S + 1) qL j := e
    by_cases ei : i = sN S + 1 <;> by_cases ej : j = sN S + 1
    · omega
    · rw [ei, va_ups, va_upo ej] at e; exact absurd e.symm (dL j (by omega))
    · rw [ej, va_ups, va_upo ei] at e; exact absurd e (dL i (by omega))
    · rw [va_upo ei, va_upo ej] at e; exact d1 i j (by omega) (by omega) e
  · have hi : i ≤ sN S + 1 := hi
    have hj : j ≤ sN S + 1 := hj
    have e : va_up (xt A) (sN S + 1) qT i = va_up (xt A) (sN S + 1) qT j := e
    by_cases ei : i = sN S + 1 <;> by_cases ej : j = sN S + 1
    · omega
    · rw [ei, va_ups, va_upo ej] at e; exact absurd e.symm (dT j (by omega))
    · rw [ej, va_ups, va_upo ei] at e; exact absurd e (dT i (by omega))
    · rw [va_upo ei, va_upo ej] at e; exact d2 i j (by omega) (by omega) e
  · have hj : j ≤ sN S + 1 := hj
    show va_up (xt A) (sN S + 1) qT j ≠ xT A
    by_cases ej : j = sN S + 1
    · rw [ej, va_ups]; exact dX
    · rw [va_upo ej]; exact d3 j (by omega)
  · have hi : i < sN S + 1 := hi
    have hj : j < sN S + 1 := hj
    have e : va_up (xr A) (sN S) q i = va_up (xr A) (sN S) q j := e
    by_cases ei : i = sN S <;> by_cases ej : j = sN S
    · omega
    · rw [ei, va_ups, va_upo ej] at e; exact absurd e.symm (dq j (by omega))
    · rw [ej, va_ups, va_upo ei] at e; exact absurd e (dq i (by omega))
    · rw [va_upo ei, va_upo ej] at e; exact d4 i j (by omega) (by omega) e
/-- a thing's address doesn't change by a new row or a new piece -/
theorem th_row {c0 : Nat} (hI : Inv c0 S) {k : Nat} {x : Int64} (hv : val S k x) (n q qL qT : Nat) (hn : sN S ≤ n) : th (adRow A n q qL qT) k x = th A k x := by
  have hbd := hI.2.2.1
  have hN := hI.1
  have hP := hI.2.1
  unfold th
  rcases hv with q1 | rfl | ⟨-, -, p, p1, p2, rfl⟩ | ⟨-, r, hr, -, rfl⟩
  · rw [if_pos q1, if_pos q1]
  · rw [if_pos rfl, if_pos rfl]
  · rw [if_neg (lN_nn (by omega)), if_neg (lN_nn (by omega))]
  · rw [if_pos (neg_lt (by omega)), if_pos (neg_lt (by omega)), neg_rN (by omega)]
    show (if k ≤ 9 then none else if _ then none else some (va_up (xr A) n q r)) = _
    rw [va_upo (by omega)]
theorem th_pc {c0 : Nat} (hI : Inv c0 S) {k : Nat} {x : Int64} (hv : val S k x) (n q : Nat) (hn : sP S < n) : th (adPc A n q) k x = th A k x := by
  have hbd := hI.2.2.1
  have hN := hI.1
  have hP := hI.2.1
  unfold th
  rcases hv with q1 | rfl | ⟨-, -, p, p1, p2, rfl⟩ | ⟨-, r, hr, -, rfl⟩
  · rw [if_pos q1, if_pos q1]
  · rw [if_pos rfl, if_pos rfl]
  · rw [if_neg (lN_nn (by omega)), if_neg (lN_nn (by omega)), lN_pN (by omega)]
    show (if k ≤ 9 then none else if _ then none else some (va_up (xp A) n q p)) = _
    rw [va_upo (by omega)]
  · rw [if_pos (neg_lt (by omega)), if_pos (neg_lt (by omega))]
theorem CR.row {c0 : Nat} (hI : Inv c0 S) (h : CR A f g S) (k n q qL qT : Nat) : CR (adRow A (sN S) q qL qT) (va_up f (sN S + 1) (fun _ => 0)) (va_up g (sN S + 1) (fun _ => none)) (wRow S k n) := by
  refine ⟨fun r i hr hi => ?_, fun r i hr hi => ?_⟩
  · have hr : r < sN S + 1 := hr
    have hi : i < va_up (sZ S) (sN S) n r := hi
    show va_up f (sN S + 1) (fun _ => 0) (r + 1) i = nu (va_up (sK S) (sN S) k r) (va_up (sC S) (sN S) (fun _ => 0) r i) ∧ va_up g (sN S + 1) (fun _ => none) (r + 1) i = th _ (va_up (sK S) (sN S) k r) (va_up (sC S) (sN S) (fun _ => 0) r i)
    by_cases e : r = sN S
    · rw [e, va_ups, va_ups, va_ups, va_ups]
      unfold nu th
      refine ⟨by split <;> rfl, ?_⟩
      split
      · rfl
      · rw [if_pos rfl]
    · rw [va_upo e] at hi
      have e1 : va_up f (sN S + 1) (fun _ => 0) (r + 1) = f (r + 1) := va_upo (by omega)
      have e2 : va_up g (sN S + 1) (fun _ => none) (r + 1) = g (r + 1) := va_upo (by omega)
      rw [e1, e2, va_upo e, va_upo e, th_row hI ((hI.2.2.2.1 r (by omega)).2.2.2 i hi) _ _ _ _ (Nat.le_refl _)]
      exact h.1 r i (by omega) hi
  · have hr' := hI.2.2.2.2.2.2.2.1 r hr
    have hi : i < va_up (sZ S) (sN S) n r := hi
    rw [va_upo (by omega)] at hi
    show va_up f (sN S + 1) (fun _ => 0) 0 i = nu (va_up (sK S) (sN S) k r) (sF S i) ∧ va_up g (sN S + 1) (fun _ => none) 0 i = th _ (va_up (sK S) (sN S) k r) (sF S i)
    have e1 : va_up f (sN S + 1) (fun _ => 0) 0 = f 0 := va_upo (by omega)
    have e2 : va_up g (sN S + 1) (fun _ => none) 0 = g 0 := va_upo (by omega)
    have e3 : va_up (sK S) (sN S) k r = sK S r := va_upo (by omega)
    rw [e1, e2, e3, th_row hI (hr'.2 i hi) _ _ _ _ (Nat.le_refl _)]
    exact h.2 r i hr hi
/-- a tray gets another holding -/
theorem CW.tray (h : CW y h0 A tr f g S M) {t z k : Nat} {x : Int32} (ht : t < 12) (hz : (k = 0 ∧ z = xN A) ∨ (k = 1 ∧ ∃ a b, M z = some (eO 0 (hF 1 0 x a b))) ∨ (2 ≤ k ∧ ∃ r, r < sN S ∧ x = nI r ∧ sK S r = k ∧ z = xr A r)) : CW y h0 A (va_up tr t z) f g (wTr S (va_up (sH S) t k) (va_up (sO S) t x)) (mu M (xT A) (eH y 12 (va_up (fun t => some (tr t)) t (some z)))) := by
  obtain ⟨⟨h1, ⟨a2, b2, h2⟩, h3, h4, h5, h6, h7, h8⟩, ⟨k1, k2, k3⟩, h9⟩ := h
  have ef : va_up (fun t => some (tr t)) t (some z) = fun j => some (va_up tr t z j) := by
    funext j
    by_cases e : j = t
    · rw [e, va_ups, va_ups]
    · rw [va_upo e, va_upo e]
  have hO : ∀ {q ci : Nat} {fs : List Value}, M q = some (eO ci fs) → mu M (xT A) (eH y 12 (va_up (fun t => some (tr t)) t (some z))) q = some (eO ci fs) := fun hq => mu_k (m_ne hq h3 ne_OA) hq
  refine ⟨⟨hO h1, ⟨a2, b2, hO h2⟩, by rw [ef]; exact mu_s, hO h4, mu_k (m_ne h5 h3 ne_IH) h5, fun r hr => hO (h6 r hr), fun q q1 q2 => hO (h7 q q1 q2), fun j hj => ?_⟩, ⟨fun j hj => mu_k (m_ne (k1 j hj) h3 ne_LH) (k1 j hj), fun j hj => mu_k (h9.2.2.1 j hj) (k2 j hj), k3⟩, h9⟩
  show (va_up (sH S) t k j = 0 ∧ va_up tr t z j = xN A) ∨ (va_up (sH S) t k j = 1 ∧ ∃ a b, mu M (xT A) (eH y 12 (va_up (fun t => some (tr t)) t (some z))) (va_up tr t z j) = some (eO 0 (hF 1 0 (va_up (sO S) t x j) a b))) ∨ (2 ≤ va_up (sH S) t k j ∧ ∃ r, r < sN S ∧ va_up (sO S) t x j = nI r ∧ sK S r = va_up (sH S) t k j ∧ va_up tr t z j = xr A r)
  by_cases e : j = t
  · rw [e, va_ups, va_ups, va_ups]
    rcases hz with q | ⟨q, a, b, q3⟩ | q
    · exact Or.inl q
    · exact Or.inr (Or.inl ⟨q, a, b, hO q3⟩)
    · exact Or.inr (Or.inr q)
  · rw [va_upo e, va_upo e, va_upo e]
    rcases h8 j hj with q | ⟨q, a, b, q3⟩ | q
    · exact Or.inl q
    · exact Or.inr (Or.inl ⟨q, a, b, hO q3⟩)
    · exact Or.inr (Or.inr q)
/-- a new piece -/
theorem CW.piece {c0 : Nat} (hI : Inv c0 S) (h : CW y h0 A tr f g S M) {q j : Nat} (hq : M q = some (eO 1 [.int (nI (j + 1)), .int (nI (sP S + 1)), .int 0])) (dq : ∀ k, 1 ≤ k → k ≤ sP S → xp A k ≠ q) : CW y h0 (adPc A (sP S + 1) q) tr f g (wPc S (sP S + 1) (va_up (sS S) (sP S + 1) j)) (mu M h0 (eO 2 (bF A (wPc S (sP S + 1) (va_up (sS S) (sP S + 1) j))))) := by
  obtain ⟨⟨h1, ⟨a2, b2, h2⟩, h3, h4, h5, h6, h7, h8⟩, ⟨k1, k2, k3⟩, d1, d2, d3, d4, d5⟩ := h
  have th1 : ∀ z, isTh A S z → isTh (adPc A (sP S + 1) q) (wPc S (sP S + 1) (va_up (sS S) (sP S + 1) j)) z := by
    intro z hz
    rcases hz with hz | ⟨p, p1, p2, e⟩
    · exact Or.inl hz
    · exact Or.inr ⟨p, p1, Nat.le_succ_of_le p2, by rw [e]; exact (va_upo (by omega)).symm⟩
  refine ⟨⟨mu_s, ⟨a2, b2, mu_k (m_ne h2 h1 (by simp)) h2⟩, mu_k (m_ne h3 h1 (by simp)) h3, mu_k (m_ne h4 h1 (by simp)) h4, mu_k (m_ne h5 h1 (by simp)) h5, fun r hr => mu_k (m_ne (h6 r hr) h1 (by simp)) (h6 r hr), fun p p1 p2 => ?_, fun t ht => ?_⟩, ⟨fun j hj => mu_k (m_ne (k1 j hj) h1 (by simp)) (k1 j hj), fun j hj => mu_k (m_ne (k2 j hj) h1 (by simp)) (k2 j hj), fun a i z ha hi hz => th1 z (k3 a i z ha hi hz)⟩, d1, d2, d3, d4, fun a b a1 a2 b1 b2 e => ?_⟩
  · have p2 : p ≤ sP S + 1 := p2
    show mu M h0 _ (va_up (xp A) (sP S + 1) q p) = some (eO 1 [.int (nI (va_up (sS S) (sP S + 1) j p + 1)), .int (nI p), .int (sL S p)])
    by_cases e : p = sP S + 1
    · rw [e, va_ups, va_ups, hI.2.2.2.2.2.1 (sP S + 1) (by omega)]
      exact mu_k (m_ne hq h1 (by simp)) hq
    · rw [va_upo e, va_upo e]
      exact mu_k (m_ne (h7 p p1 (by omega)) h1 (by simp)) (h7 p p1 (by omega))
  · rcases h8 t ht with q | ⟨q, a3, b3, q3⟩ | q
    · exact Or.inl q
    · exact Or.inr (Or.inl ⟨q, a3, b3, mu_k (m_ne q3 h1 (by simp)) q3⟩)
    · exact Or.inr (Or.inr q)
  · have a2 : a ≤ sP S + 1 := a2
    have b2 : b ≤ sP S + 1 := b2
    have e : va_up (xp A) (sP S + 1) q a = va_up (xp A) (sP S + 1) q b := e
    by_cases ei : a = sP S + 1 <;> by_cases ej : b = sP S + 1
    · omega
    · rw [ei, va_ups, va_upo ej] at e; exact absurd e.symm (dq b b1 (by omega))
    · rw [ej, va_ups, va_upo ei] at e; exact absurd e (dq a a1 (by omega))
    · rw [va_upo ei, va_upo ej] at e; exact d5 a b a1 (by omega) b1 (by omega) e
theorem CR.piece {c0 : Nat} (hI : Inv c0 S) (h : CR A f g S) (q j : Nat) : CR (adPc A (sP S + 1) q) f g (wPc S (sP S + 1) (va_up (sS S) (sP S + 1) j)) := by
  refine ⟨fun r i hr hi => ?_, fun r i hr hi => ?_⟩
  · show f (r + 1) i = nu (sK S r) (sC S r i) ∧ g (r + 1) i = th (adPc A (sP S + 1) q) (sK S r) (sC S r i)
    rw [th_pc (A := A) hI ((hI.2.2.2.1 r hr).2.2.2 i hi) _ _ (by omega)]
    exact h.1 r i hr hi
  · show f 0 i = nu (sK S r) (sF S i) ∧ g 0 i = th (adPc A (sP S + 1) q) (sK S r) (sF S i)
    rw [th_pc (A := A) hI ((hI.2.2.2.2.2.2.2.1 r hr).2 i hi) _ _ (by omega)]
    exact h.2 r i hr hi
end GRW
