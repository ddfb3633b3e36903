/-! what holds of a bench stays -/
theorem Inv.up {c c' : Nat} {S : St} (h : Inv c S) (h1 : c ≤ c') (h2 : c' ≤ 512) : Inv c' S := by
  obtain ⟨a1, a2, -, a4⟩ := h
  exact ⟨Nat.le_trans a1 h1, Nat.le_trans a2 h1, h2, a4⟩
theorem val_row {S : St} {k : Nat} {x : Int64} (h : val S k x) (kk n : Nat) : val (wRow S kk n) k x := by
  rcases h with q | q | q | ⟨q, r, hr, e, ex⟩
  · exact Or.inl q
  · exact Or.inr (Or.inl q)
  · exact Or.inr (Or.inr (Or.inl q))
  · exact Or.inr (Or.inr (Or.inr ⟨q, r, Nat.lt_succ_of_lt hr, (va_upo (by omega)).trans e, ex⟩))
theorem val_pc {S : St} {k : Nat} {x : Int64} (h : val S k x) (so : Nat → Nat) : val (wPc S (sP S + 1) so) k x := by
  rcases h with q | q | ⟨q, q2, p, p1, p2, e⟩ | q
  · exact Or.inl q
  · exact Or.inr (Or.inl q)
  · exact Or.inr (Or.inr (Or.inl ⟨q, q2, p, p1, Nat.le_succ_of_le p2, e⟩))
  · exact Or.inr (Or.inr (Or.inr q))
theorem inv_row {c : Nat} {S : St} (h : Inv c S) (hc : c + 1 ≤ 512) {k n : Nat} (hk : 2 ≤ k) (hk2 : k ≤ 13) (hn : n ≤ 64) : Inv (c + 1) (wRow S k n) := by
  obtain ⟨h1, h2, h3, h4, h5, h6, h7, h8, h9⟩ := h
  refine ⟨Nat.succ_le_succ h1, Nat.le_succ_of_le h2, hc, fun r hr => ?_, h5, h6, fun t ht => ⟨(h7 t ht).1, fun q => ?_⟩, fun r hr => ?_, h9⟩
  · have hr : r < sN S + 1 := hr
    show 2 ≤ va_up (sK S) (sN S) k r ∧ va_up (sK S) (sN S) k r ≤ 13 ∧ va_up (sZ S) (sN S) n r ≤ 64 ∧ ∀ i, i < va_up (sZ S) (sN S) n r → val (wRow S k n) (va_up (sK S) (sN S) k r) (va_up (sC S) (sN S) (fun _ => 0) r i)
    by_cases e : r = sN S
    · rw [e, va_ups, va_ups, va_ups]
      exact ⟨hk, hk2, hn, fun _ _ => Or.inr (Or.inl rfl)⟩
    · rw [va_upo e, va_upo e, va_upo e]
      have q := h4 r (by omega)
      exact ⟨q.1, q.2.1, q.2.2.1, fun i hi => val_row (q.2.2.2 i hi) k n⟩
  · obtain ⟨r, hr, e1, e2⟩ := (h7 t ht).2 q
    exact ⟨r, Nat.lt_succ_of_lt hr, e1, (va_upo (by omega)).trans e2⟩
  · obtain ⟨q1, q2⟩ := h8 r hr
    refine ⟨Nat.lt_succ_of_lt q1, fun i hi => ?_⟩
    have hi : i < va_up (sZ S) (sN S) n r := hi
    show val (wRow S k n) (va_up (sK S) (sN S) k r) (sF S i)
    rw [va_upo (by omega)] at hi ⊢
    exact val_row (q2 i hi) k n
theorem inv_tr {c : Nat} {S : St} (h : Inv c S) {t k : Nat} {x : Int32} (hk : k ≤ 13) (hr : 2 ≤ k → ∃ r, r < sN S ∧ x = nI r ∧ sK S r = k) : Inv c (wTr S (va_up (sH S) t k) (va_up (sO S) t x)) := by
  obtain ⟨h1, h2, h3, h4, h5, h6, h7, h8, h9⟩ := h
  refine ⟨h1, h2, h3, h4, h5, h6, fun j hj => ?_, h8, h9⟩
  show va_up (sH S) t k j ≤ 13 ∧ (2 ≤ va_up (sH S) t k j → ∃ r, r < sN S ∧ va_up (sO S) t x j = nI r ∧ sK S r = va_up (sH S) t k j)
  by_cases e : j = t
  · rw [e, va_ups, va_ups]; exact ⟨hk, hr⟩
  · rw [va_upo e, va_upo e]; exact h7 j hj
theorem inv_pc {c : Nat} {S : St} (h : Inv c S) (hc : c + 1 ≤ 512) {j : Nat} (h1 : 1 ≤ j) (h2 : j ≤ 4) : Inv (c + 1) (wPc S (sP S + 1) (va_up (sS S) (sP S + 1) j)) := by
  obtain ⟨a1, a2, a3, a4, a5, a6, a7, a8, a9⟩ := h
  refine ⟨Nat.le_succ_of_le a1, Nat.succ_le_succ a2, hc, fun r hr => ?_, fun k k1 k2 => ?_, fun k hk => a6 k (Nat.lt_of_succ_lt hk), a7, fun r hr => ⟨(a8 r hr).1, fun i hi => val_pc ((a8 r hr).2 i hi) _⟩, a9⟩
  · have q := a4 r hr
    exact ⟨q.1, q.2.1, q.2.2.1, fun i hi => val_pc (q.2.2.2 i hi) _⟩
  · have k2 : k ≤ sP S + 1 := k2
    show 1 ≤ va_up (sS S) (sP S + 1) j k ∧ va_up (sS S) (sP S + 1) j k ≤ 4
    by_cases e : k = sP S + 1
    · rw [e, va_ups]; exact ⟨h1, h2⟩
    · rw [va_upo e]; exact a5 k k1 (by omega)
theorem inv_rc {c : Nat} {S : St} (h : Inv c S) {cc : Nat → Nat → Int64} (hv : ∀ r i, r < sN S → i < sZ S r → val S (sK S r) (cc r i)) : Inv c (wRC S cc) := by
  obtain ⟨h1, h2, h3, h4, h5, h6, h7, h8, h9⟩ := h
  exact ⟨h1, h2, h3, fun r hr => ⟨(h4 r hr).1, (h4 r hr).2.1, (h4 r hr).2.2.1, fun i hi => hv r i hr hi⟩, h5, h6, h7, h8, h9⟩
/-- one row's contents change -/
theorem inv_rc1 {c : Nat} {S : St} (h : Inv c S) {r : Nat} {z : Nat → Int64} (hv : ∀ i, i < sZ S r → val S (sK S r) (z i)) : Inv c (wRC S (va_up (sC S) r z)) := by
  refine inv_rc h (fun q i hq hi => ?_)
  by_cases e : q = r
  · rw [e, va_ups]; rw [e] at hi; exact hv i hi
  · rw [va_upo e]; exact (h.2.2.2.1 q hq).2.2.2 i hi
theorem inv_po {c : Nat} {S : St} (h : Inv c S) {p : Nat} (hp : p ≤ sP S) (z : Int32) : Inv c (wPo S (va_up (sL S) p z)) := by
  obtain ⟨h1, h2, h3, h4, h5, h6, h7, h8, h9⟩ := h
  exact ⟨h1, h2, h3, h4, h5, fun k hk => (va_upo (Nat.ne_of_gt (Nat.lt_of_le_of_lt hp hk))).trans (h6 k hk), h7, h8, h9⟩
theorem inv_ct {c : Nat} {S : St} (h : Inv c S) (t : Nat → Int32) : Inv c (wCt S t) := h
theorem inv_tell {c : Nat} {S : St} (h : Inv c S) (x : Int32) : Inv c (tell S x) := inv_ct h _
theorem inv_bn {c : Nat} {S : St} (h : Inv c S) (b : Nat → Int64) : Inv c (wBf S none b) := by
  obtain ⟨h1, h2, h3, h4, h5, h6, h7, h8, h9⟩ := h
  exact ⟨h1, h2, h3, h4, h5, h6, h7, fun r hr => (by cases hr), h9⟩
theorem val_gs {S : St} {c : Nat} (hI : Inv c S) {ka kb : Nat} {x : Int64} (hv : val S ka x) (hg : gs S kb x = true) (ha : 2 ≤ ka) (hb : 2 ≤ kb ∧ kb ≤ 13) (hu : ¬ ((isN ka || isN kb) = true ∧ ka ≠ kb)) : val S kb x := by
  by_cases e : ka = kb
  · rw [← e]; exact hv
  · have h1 : ¬ ka ≤ 9 := fun h => hu ⟨by simp [isN]; omega, e⟩
    have h2 : ¬ kb ≤ 9 := fun h => hu ⟨by simp [isN]; omega, e⟩
    have hn : isN kb = false := by
      cases hh : isN kb with
      | false => rfl
      | true => exact absurd ⟨by simp [hh], e⟩ hu
    have hbd := hI.2.2.1
    have hN := hI.1
    have hP := hI.2.1
    rcases hv with q | q | ⟨-, -, p, p1, p2, rfl⟩ | ⟨-, r, hr, e2, rfl⟩
    · exact absurd q h1
    · exact Or.inr (Or.inl q)
    · refine Or.inr (Or.inr (Or.inl ⟨by omega, ?_, p, p1, p2, rfl⟩))
      refine Classical.byContradiction fun q => ?_
      have e13 : kb = 13 := by omega
      unfold gs at hg
      rw [hn, e13] at hg
      have a1 := lN_nn (p := p) (by omega)
      have a2 := lN_ne (p := p) (by omega) p1
      simp [a1, a2] at hg
    · refine Or.inr (Or.inr (Or.inr ⟨?_, r, hr, e2, rfl⟩))
      refine Classical.byContradiction fun q => ?_
      unfold gs at hg
      rw [hn] at hg
      have a1 := neg_lt (r := r) (by omega)
      have a2 := neg_ne (r := r) (by omega)
      simp [a1, a2, q] at hg
theorem md5_lt (v : Int32) : md5 v < 5 := by
  unfold md5
  omega
theorem isN_t {k : Nat} (h : isN k = true) : 2 ≤ k ∧ k ≤ 9 := by
  unfold isN at h
  simp at h
  exact h
theorem isN_f {k : Nat} (h : isN k = false) (h2 : 2 ≤ k) : 10 ≤ k := by
  unfold isN at h
  simp at h
  omega
theorem inv_thg {c : Nat} {S : St} (h : Inv c S) (hc : c + 1 ≤ 512) {k : Nat} (hk : 2 ≤ k) (hk2 : k ≤ 13) (v : Int32) : Inv (c + 1) (thg S k v).2 ∧ val (thg S k v).2 k (thg S k v).1 := by
  have hu := h.up (Nat.le_succ c) hc
  unfold thg
  by_cases h1 : isN k = true
  · rw [if_pos h1]
    exact ⟨hu, Or.inl (isN_t h1).2⟩
  · rw [if_neg h1]
    have h10 := isN_f (by simpa using h1) hk
    by_cases h2 : k = 13
    · rw [if_pos h2]
      refine ⟨hu, ?_⟩
      show val S k (if _ then _ else _)
      by_cases h3 : (inP v 12 && decide (sH S (cN v) = 6)) = true
      · rw [if_pos h3]
        simp only [Bool.and_eq_true, decide_eq_true_eq] at h3
        obtain ⟨t, ht, rfl⟩ := inP_t (by decide) h3.1
        rw [cN_nI (by omega)] at h3 ⊢
        obtain ⟨r, hr, e1, e2⟩ := (h.2.2.2.2.2.2.1 t ht).2 (by omega)
        have hb1 := h.1
        rw [e1, nI_l (by omega)]
        exact Or.inr (Or.inr (Or.inr ⟨h2, r, hr, by omega, rfl⟩))
      · rw [if_neg h3]
        exact Or.inr (Or.inl rfl)
    · rw [if_neg h2]
      unfold mkP
      by_cases h3 : md5 v = 0
      · rw [if_pos h3]
        exact ⟨hu, Or.inr (Or.inl rfl)⟩
      · rw [if_neg h3]
        have h5 := md5_lt v
        exact ⟨inv_pc h hc (by omega) (by omega), Or.inr (Or.inr (Or.inl ⟨by omega, by omega, sP S + 1, by omega, Nat.le_refl _, rfl⟩))⟩
theorem thg_H (S : St) (k : Nat) (v : Int32) : sH (thg S k v).2 = sH S ∧ sO (thg S k v).2 = sO S ∧ sN (thg S k v).2 = sN S ∧ sK (thg S k v).2 = sK S ∧ sZ (thg S k v).2 = sZ S ∧ sC (thg S k v).2 = sC S := by
  unfold thg
  by_cases h1 : isN k = true
  · rw [if_pos h1]; exact ⟨rfl, rfl, rfl, rfl, rfl, rfl⟩
  · rw [if_neg h1]
    by_cases h2 : k = 13
    · rw [if_pos h2]; exact ⟨rfl, rfl, rfl, rfl, rfl, rfl⟩
    · rw [if_neg h2]
      unfold mkP
      by_cases h3 : md5 v = 0
      · rw [if_pos h3]; exact ⟨rfl, rfl, rfl, rfl, rfl, rfl⟩
      · rw [if_neg h3]; exact ⟨rfl, rfl, rfl, rfl, rfl, rfl⟩
/-! the calls keep it -/
theorem inv_lay {c : Nat} {S : St} (h : Inv c S) (hc : c + 1 ≤ 512) (t k n : Int32) : Inv (c + 1) (sp_lay S t k n).2 := by
  unfold sp_lay
  by_cases h1 : (inP t 12 && (kin k && inP n 65)) = true
  · rw [if_pos h1]
    simp only [Bool.and_eq_true] at h1
    obtain ⟨j, hj, rfl⟩ := inP_t (by decide) h1.2.2
    have hk := h1.2.1
    unfold kin at hk
    simp only [Bool.and_eq_true, Bool.not_eq_true', decide_eq_false_iff_not] at hk
    obtain ⟨kk, hkk, rfl⟩ := nI_of2 (M := 13) (n := 13) rfl (fun q => hk.1 (Int32.lt_trans q (by decide))) (Int32.not_lt.mp hk.2)
    have h2 : ¬ kk < 2 := fun q => hk.1 ((nI_ltI (b := 2) (by omega) (by decide)).mpr q)
    have e1 : cN (nI kk) = kk := cN_nI (by omega)
    have e2 : cN (nI j) = j := cN_nI (by omega)
    rw [e1, e2]
    refine inv_tr (S := wRow S kk j) (inv_row h hc (by omega) hkk (by omega)) hkk (fun _ => ⟨sN S, Nat.lt_succ_self _, rfl, va_ups⟩)
  · rw [if_neg h1]
    exact h.up (Nat.le_succ c) hc
theorem inv_ticket {c : Nat} {S : St} (h : Inv c S) (hc : c + 1 ≤ 512) (t k n : Int32) : Inv (c + 1) (sp_ticket S t k n).2 := by
  unfold sp_ticket
  by_cases h1 : (inP t 12 && inP k 2) = true
  · rw [if_pos h1]
    simp only [Bool.and_eq_true] at h1
    obtain ⟨j, hj, rfl⟩ := inP_t (by decide) h1.2
    rw [cN_nI (n := j) (by omega)]
    exact inv_tr (h.up (Nat.le_succ c) hc) (by omega) (fun q => by omega)
  · rw [if_neg h1]
    exact h.up (Nat.le_succ c) hc
theorem inv_share {c : Nat} {S : St} (h : Inv c S) (hc : c + 1 ≤ 512) (a t : Int32) : Inv (c + 1) (sp_share S a t).2 := by
  unfold sp_share
  by_cases h1 : (inP a 12 && inP t 12) = true
  · rw [if_pos h1]
    simp only [Bool.and_eq_true] at h1
    obtain ⟨j, hj, rfl⟩ := inP_t (by decide) h1.1
    rw [cN_nI (n := j) (by omega)]
    have q := h.2.2.2.2.2.2.1 j hj
    exact inv_tr (h.up (Nat.le_succ c) hc) q.1 q.2
  · rw [if_neg h1]
    exact h.up (Nat.le_succ c) hc
theorem inv_put {c : Nat} {S : St} (h : Inv c S) (hc : c + 1 ≤ 512) (t i v : Int32) : Inv (c + 1) (sp_put S t i v).2 := by
  have hu := h.up (Nat.le_succ c) hc
  unfold sp_put
  by_cases h1 : inP t 12 = false
  · rw [if_pos h1]; exact hu
  · rw [if_neg h1]
    obtain ⟨tt, ht, rfl⟩ := inP_t (i := t) (n := 12) (by decide) (by simpa using h1)
    rw [cN_nI (n := tt) (by omega)]
    by_cases h2 : sH S tt < 2
    · rw [if_pos h2]; exact hu
    · rw [if_neg h2]
      have hk := h.2.2.2.2.2.2.1 tt ht
      obtain ⟨g1, g2⟩ := inv_thg h hc (k := sH S tt) (by omega) hk.1 v
      have e := thg_H S (sH S tt) v
      unfold put1
      by_cases h3 : inP i (zT (thg S (sH S tt) v).2 tt) = false
      · rw [if_pos h3]; exact g1
      · rw [if_neg h3]
        by_cases h4 : gs (thg S (sH S tt) v).2 (sH (thg S (sH S tt) v).2 tt) (thg S (sH S tt) v).1 = false
        · rw [if_pos h4]; exact g1
        · rw [if_neg h4]
          refine inv_rc1 g1 (fun j hj => ?_)
          have hr := rowT_eq g1 ht (by rw [e.1]; omega)
          by_cases ej : j = cN i
          · rw [ej, va_ups, hr.2, e.1]; exact g2
          · rw [va_upo ej]; exact (g1.2.2.2.1 _ hr.1).2.2.2 j hj
theorem inv_movd {c : Nat} {S : St} (h : Inv c S) {a b : Nat} (ha : a < 12) (hb : b < 12) (p q n : Int32) : Inv c (movd S a p b q n).2 := by
  unfold movd
  by_cases h1 : ¬ unl S a b = 0
  · rw [if_pos h1]; exact h.fl (by omega)
  · rw [if_neg h1]
    by_cases h2 : (hpl p n (zT S a) && hpl q n (zT S b)) = false
    · rw [if_pos h2]; exact h.fl (by omega)
    · rw [if_neg h2]
      have h2 : (hpl p n (zT S a) && hpl q n (zT S b)) = true := by simpa using h2
      simp only [Bool.and_eq_true] at h2
      obtain ⟨pp, nn, rfl, rfl, hpn⟩ := hpl_t (zT_le h ha) h2.1
      obtain ⟨qq, n2, rfl, en, hqn⟩ := hpl_t (zT_le h hb) h2.2
      have hza := zT_le h ha
      have hzb := zT_le h hb
      obtain ⟨h2a, h2b, hcm⟩ := unlK_0 (show unlK (sH S a) (sH S b) = 0 from Classical.not_not.mp h1)
      have ra := rowT_eq h ha h2a
      have rb := rowT_eq h hb h2b
      have hzA : zT S a = sZ S (rowT S a) := by unfold zT; rw [if_pos h2a]
      rw [cN_nI (n := pp) (by omega), cN_nI (n := qq) (by omega), cN_nI (n := nn) (by omega)]
      have hK := ld_le (fun k => gs S (sH S b) (sC S (rowT S a) (pp + k))) nn
      refine Inv.fl (S := mvR S a pp b qq (mvK S a pp b nn)) ?_ (Nat.le_trans hK (by omega))
      refine inv_rc1 h (fun j hj => ?_)
      by_cases e : qq ≤ j ∧ j < qq + mvK S a pp b nn
      · rw [if_pos e]
        have hlt : j - qq < mvK S a pp b nn := by omega
        have hg := ld_all (P := fun k => gs S (sH S b) (sC S (rowT S a) (pp + k))) (n := nn) hlt
        have hKn : mvK S a pp b nn ≤ nn := hK
        rw [rb.2]
        refine val_gs h ((h.2.2.2.1 _ ra.1).2.2.2 (pp + (j - qq)) (by omega)) hg (by omega) ⟨h2b, (h.2.2.2.2.2.2.1 b hb).1⟩ (by rw [ra.2]; exact hcm)
      · rw [if_neg e]
        exact (h.2.2.2.1 _ rb.1).2.2.2 j hj
theorem inv_move {c : Nat} {S : St} (h : Inv c S) (hc : c + 1 ≤ 512) (a p b q n : Int32) : Inv (c + 1) (sp_move S a p b q n).2 := by
  have hu := h.up (Nat.le_succ c) hc
  unfold sp_move
  by_cases h1 : (inP a 12 && inP b 12) = false
  · rw [if_pos h1]; exact hu
  · rw [if_neg h1]
    have h1 : (inP a 12 && inP b 12) = true := by simpa using h1
    simp only [Bool.and_eq_true] at h1
    obtain ⟨ta, hta, rfl⟩ := inP_t (by decide) h1.1
    obtain ⟨tb, htb, rfl⟩ := inP_t (by decide) h1.2
    rw [cN_nI (n := ta) (by omega), cN_nI (n := tb) (by omega)]
    exact inv_tell (inv_movd (inv_kep hu htb) hta htb p q n) _
theorem inv_open {c : Nat} {S : St} (h : Inv c S) (hc : c + 1 ≤ 512) (t i n : Int32) : Inv (c + 1) (sp_open S t i n).2 := by
  unfold sp_open
  by_cases h1 : inP t 12 = false
  · rw [if_pos h1]; exact h.up (Nat.le_succ c) hc
  · rw [if_neg h1]; exact inv_move h hc _ _ _ _ _
theorem inv_close {c : Nat} {S : St} (h : Inv c S) (hc : c + 1 ≤ 512) (t i n : Int32) : Inv (c + 1) (sp_close S t i n).2 := by
  unfold sp_close
  by_cases h1 : inP t 12 = false
  · rw [if_pos h1]; exact h.up (Nat.le_succ c) hc
  · rw [if_neg h1]; exact inv_move h hc _ _ _ _ _
theorem inv_turn {c : Nat} {S : St} (h : Inv c S) (hc : c + 1 ≤ 512) (t k : Int32) : Inv (c + 1) (sp_turn S t k).2 := by
  have hu := h.up (Nat.le_succ c) hc
  unfold sp_turn
  by_cases h1 : inP t 12 = false
  · rw [if_pos h1]; exact hu
  · rw [if_neg h1]
    obtain ⟨tt, ht, rfl⟩ := inP_t (i := t) (n := 12) (by decide) (by simpa using h1)
    rw [cN_nI (n := tt) (by omega)]
    unfold turn1
    by_cases h2 : sH S tt < 2
    · rw [if_pos h2]; exact inv_tell (inv_kep hu ht) _
    · rw [if_neg h2, kep_row (by omega)]
      have hk := inv_kep hu ht
      rw [kep_row (by omega)] at hk
      have hr := rowT_eq hu ht (by omega)
      have hz : zT S tt = sZ S (rowT S tt) := by unfold zT; rw [if_pos (by omega)]
      refine inv_tell (inv_rc1 hk (fun j hj => ?_)) _
      have hj : j < sZ S (rowT S tt) := hj
      refine (hu.2.2.2.1 _ hr.1).2.2.2 _ ?_
      rw [tiK_eq k (by omega), hz]
      exact Nat.mod_lt _ (by omega)
theorem inv_spread {c : Nat} {S : St} (h : Inv c S) (hc : c + 1 ≤ 512) (t n : Int32) : Inv (c + 1) (sp_spread S t n).2 := by
  have hu := h.up (Nat.le_succ c) hc
  unfold sp_spread
  by_cases h1 : inP t 12 = false
  · rw [if_pos h1]; exact hu
  · rw [if_neg h1]
    obtain ⟨tt, ht, rfl⟩ := inP_t (i := t) (n := 12) (by decide) (by simpa using h1)
    rw [cN_nI (n := tt) (by omega)]
    unfold spr1
    by_cases h2 : sH S tt < 2
    · rw [if_pos h2]; exact inv_tell (inv_kep hu ht) _
    · rw [if_neg h2]
      by_cases h3 : (!decide (n < 1) && !decide (nI (zT S tt) < n)) = false
      · rw [if_pos h3]; exact inv_tell (inv_kep hu ht) _
      · rw [if_neg h3, kep_row (by omega)]
        have hk := inv_kep hu ht
        rw [kep_row (by omega)] at hk
        have hr := rowT_eq hu ht (by omega)
        refine inv_tell (inv_rc1 hk (fun j hj => ?_)) _
        have hj : j < sZ S (rowT S tt) := hj
        refine (hu.2.2.2.1 _ hr.1).2.2.2 _ ?_
        by_cases e : j < cN n
        · rw [if_pos e]; exact hj
        · rw [if_neg e]; exact Nat.lt_of_le_of_lt (Nat.mod_le _ _) hj
theorem inv_undo {c : Nat} {S : St} (h : Inv c S) (hc : c + 1 ≤ 512) : Inv (c + 1) (sp_undo S).2 := by
  have hu := h.up (Nat.le_succ c) hc
  unfold sp_undo
  cases hb : sB S with
  | none => exact hu
  | some r => exact inv_bn (inv_rc1 hu (hu.2.2.2.2.2.2.2.1 r hb).2) _
theorem inv_polish {c : Nat} {S : St} (h : Inv c S) (hc : c + 1 ≤ 512) (t i m : Int32) : Inv (c + 1) (sp_polish S t i m).2 := by
  have hu := h.up (Nat.le_succ c) hc
  unfold sp_polish
  by_cases h1 : inP t 12 = false
  · rw [if_pos h1]; exact hu
  · rw [if_neg h1]
    obtain ⟨tt, ht, rfl⟩ := inP_t (i := t) (n := 12) (by decide) (by simpa using h1)
    rw [cN_nI (n := tt) (by omega)]
    unfold pol1
    by_cases h2 : sH S tt < 2
    · rw [if_pos h2]; exact hu
    · rw [if_neg h2]
      by_cases h3 : (isN (sH S tt) || decide (sH S tt = 13)) = true
      · rw [if_pos h3]; exact hu
      · rw [if_neg h3]
        by_cases h4 : inP i (zT S tt) = false
        · rw [if_pos h4]; exact hu
        · rw [if_neg h4]
          by_cases h5 : atx S tt i = 0
          · rw [if_pos h5]; exact hu
          · rw [if_neg h5]
            refine inv_po hu ?_ _
            have hz : zT S tt = sZ S (rowT S tt) := by unfold zT; rw [if_pos (by omega)]
            have hr := rowT_eq hu ht (by omega)
            obtain ⟨j, hj, rfl⟩ := inP_t (by have := zT_le hu ht; omega) (show inP i (zT S tt) = true by simpa using h4)
            have hv := (hu.2.2.2.1 _ hr.1).2.2.2 j (by omega)
            have ea : atx S tt (nI j) = sC S (rowT S tt) j := by unfold atx; rw [cN_nI (by have := zT_le hu ht; omega)]
            rw [ea] at h5 ⊢
            simp only [Bool.or_eq_true, decide_eq_true_eq, not_or] at h3
            rcases hv with q | q | ⟨-, -, p, p1, p2, e⟩ | ⟨q, -⟩
            · exact absurd (by unfold isN; simp; omega) h3.1
            · exact absurd q h5
            · have := hu.2.1; have := hu.2.2.1
              rw [e, lN_pN (by omega)]; exact p2
            · omega
