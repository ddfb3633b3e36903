theorem lrem_toInt (a : Int64) {m : Nat} (h0 : 0 < m) (hm : m < 2 ^ 31) (ha : a.toInt.natAbs < 2 ^ 40) : (a - a / lN m * lN m).toInt = a.toInt.tmod m := by
  have hs : (a.toInt.tdiv m) * m + a.toInt.tmod m = a.toInt := by
    have := Int.mul_tdiv_add_tmod a.toInt m
    rw [Int.mul_comm]
    exact this
  have hr : (a.toInt.tmod m).natAbs < m := by
    rw [Int.natAbs_tmod]
    exact Nat.mod_lt _ (by simpa using h0)
  have hq : (a.toInt.tdiv m).natAbs ≤ a.toInt.natAbs := by
    rw [Int.natAbs_tdiv]
    exact Nat.div_le_self _ _
  have hd : (a / lN m).toInt = a.toInt.tdiv m := by
    rw [Int64.toInt_div, lN_toInt hm, Int.bmod_eq_of_le] <;> omega
  have e1 : ((a.toInt.tdiv m) * m).bmod (2 ^ 64) = (a.toInt.tdiv m) * m := by
    rw [Int.bmod_eq_of_le] <;> omega
  rw [Int64.toInt_sub, Int64.toInt_mul, hd, lN_toInt hm, e1, Int.bmod_eq_of_le] <;> omega
theorem eq_lN {x : Int64} {n : Nat} (hn : n < 2 ^ 31) (h : x.toInt = n) : x = lN n := Int64.toInt_inj.mp (h.trans (lN_toInt hn).symm)
theorem add_toInt (k : Int32) {i : Nat} (hi : i < 2 ^ 31) : (lN i + k.toInt64).toInt = k.toInt + (i : Int) := by
  have h1 := Int32.le_toInt k
  have h2 := Int32.toInt_lt k
  rw [Int64.toInt_add, lN_toInt hi, Int32.toInt_toInt64, Int.bmod_eq_of_le] <;> omega
theorem tiK_lt (k : Int32) {m i : Nat} (h : 0 < m) : tiK k m i < m := by
  unfold tiK
  have h1 := Int.emod_nonneg (k.toInt + (i : Int)) (show (m : Int) ≠ 0 by omega)
  have h2 := Int.emod_lt_of_pos (k.toInt + (i : Int)) (show (0 : Int) < m by omega)
  omega
theorem tiK_pos (k : Int32) {m i : Nat} (h0 : 0 < m) (hm : m < 2 ^ 31) (hi : i < 2 ^ 31) (h : 0 ≤ (lN i + k.toInt64) - (lN i + k.toInt64) / lN m * lN m) : (lN i + k.toInt64) - (lN i + k.toInt64) / lN m * lN m = lN (tiK k m i) := by
  have g1 := Int32.le_toInt k
  have g2 := Int32.toInt_lt k
  have hA := add_toInt k hi
  have hR := lrem_toInt (lN i + k.toInt64) h0 hm (by rw [hA]; omega)
  refine eq_lN (by have := tiK_lt k (m := m) (i := i) h0; omega) ?_
  rw [Int64.le_iff_toInt_le, hR] at h
  have hz : (0 : Int64).toInt = 0 := rfl
  rw [hR]
  rw [hA] at h ⊢
  have hem := Int.tmod_eq_emod (a := k.toInt + (i : Int)) (b := (m : Int))
  have h4 := Int.emod_nonneg (k.toInt + (i : Int)) (show (m : Int) ≠ 0 by omega)
  have h5 := Int.emod_lt_of_pos (k.toInt + (i : Int)) (show (0 : Int) < m by omega)
  unfold tiK
  rw [Int.toNat_of_nonneg h4]
  split at hem <;> omega
theorem tiK_neg (k : Int32) {m i : Nat} (h0 : 0 < m) (hm : m < 2 ^ 31) (hi : i < 2 ^ 31) (h : ¬ 0 ≤ (lN i + k.toInt64) - (lN i + k.toInt64) / lN m * lN m) : ((lN i + k.toInt64) - (lN i + k.toInt64) / lN m * lN m) + lN m = lN (tiK k m i) := by
  have g1 := Int32.le_toInt k
  have g2 := Int32.toInt_lt k
  have hA := add_toInt k hi
  have hR := lrem_toInt (lN i + k.toInt64) h0 hm (by rw [hA]; omega)
  refine eq_lN (by have := tiK_lt k (m := m) (i := i) h0; omega) ?_
  rw [Int64.le_iff_toInt_le, hR] at h
  have hz : (0 : Int64).toInt = 0 := rfl
  have h6 := Int.tmod_lt_of_pos (k.toInt + (i : Int)) (show (0 : Int) < m by omega)
  have hem := Int.tmod_eq_emod (a := k.toInt + (i : Int)) (b := (m : Int))
  have h4 := Int.emod_nonneg (k.toInt + (i : Int)) (show (m : Int) ≠ 0 by omega)
  have h5 := Int.emod_lt_of_pos (k.toInt + (i : Int)) (show (0 : Int) < m by omega)
  have e : (k.toInt + (i : Int)).tmod m + m = (k.toInt + (i : Int)) % m := by
    rw [hA] at h
    split at hem <;> omega
  rw [Int64.toInt_add, hR, hA, lN_toInt hm, e, Int.bmod_eq_of_le (by omega) (by omega)]
  unfold tiK
  rw [Int.toNat_of_nonneg h4]
/-- a row's contents come one place after another -/
theorem rc_step (S : St) (r i : Nat) (z : Nat → Int64) : pRC (wRC S (va_up (sC S) r (fun j => if j < i then z j else sC S r j))) r i (z i) = wRC S (va_up (sC S) r (fun j => if j < i + 1 then z j else sC S r j)) := by
  have e : va_up (va_up (sC S) r (fun j => if j < i then z j else sC S r j)) r (va_up (va_up (sC S) r (fun j => if j < i then z j else sC S r j) r) i (z i)) = va_up (sC S) r (fun j => if j < i + 1 then z j else sC S r j) := by
    funext q
    by_cases e : q = r
    · rw [e, va_ups, va_ups, va_ups]
      funext j
      by_cases e2 : j = i
      · rw [e2, va_ups, if_pos (by omega)]
      · rw [va_upo e2]
        have hiff : j < i ↔ j < i + 1 := by omega
        simp only [hiff]
    · rw [va_upo e, va_upo e, va_upo e]
  exact congrArg (fun c => wRC S c) e
theorem rc_0 (S : St) (r : Nat) (z : Nat → Int64) (n : Nat) (h : ∀ j, j < n → z j = sC S r j) : wRC S (va_up (sC S) r (fun j => if j < n then z j else sC S r j)) = S := by
  have e : va_up (sC S) r (fun j => if j < n then z j else sC S r j) = sC S := by
    funext q
    by_cases e : q = r
    · rw [e, va_ups]
      funext j
      by_cases e2 : j < n
      · rw [if_pos e2]; exact h j e2
      · rw [if_neg e2]
    · rw [va_upo e]
  rw [e]
  rfl
theorem MR_step {fr : Nat → Nat} {nc : Nat} {cl bf : Nat → Int64} {cn : Nat → Int32} {S : St} {r i : Nat} {z : Nat → Int64} (h : MR fr nc cl bf cn (pRC (wRC S (va_up (sC S) r (fun j => if j < i then z j else sC S r j))) r i (z i))) : MR fr nc cl bf cn (wRC S (va_up (sC S) r (fun j => if j < i + 1 then z j else sC S r j))) := by
  rw [rc_step] at h
  exact h
theorem MR_0 {fr : Nat → Nat} {nc : Nat} {cl bf : Nat → Int64} {cn : Nat → Int32} {S : St} {r n : Nat} {z : Nat → Int64} (hz : ∀ j, j < n → z j = sC S r j) (h : MR fr nc cl bf cn S) : MR fr nc cl bf cn (wRC S (va_up (sC S) r (fun j => if j < n then z j else sC S r j))) := by
  rw [rc_0 S r z n hz]
  exact h
theorem inv_step {c : Nat} {S : St} (h : Inv c S) {r i : Nat} {z : Nat → Int64} (hr : r < sN S) (hv : ∀ j, j < i → j < sZ S r → val S (sK S r) (z j)) : Inv c (wRC S (va_up (sC S) r (fun j => if j < i then z j else sC S r j))) := by
  refine inv_rc1 h (fun j hj => ?_)
  by_cases e : j < i
  · rw [if_pos e]; exact hv j e hj
  · rw [if_neg e]; exact (h.2.2.2.1 r hr).2.2.2 j hj
/-- only the places of the row matter -/
theorem MR.ext {fr : Nat → Nat} {nc : Nat} {cl bf : Nat → Int64} {cn : Nat → Int32} {S : St} {r : Nat} {z1 z2 : Nat → Int64} (h : MR fr nc cl bf cn (wRC S (va_up (sC S) r z1))) (he : ∀ j, j < sZ S r → z1 j = z2 j) : MR fr nc cl bf cn (wRC S (va_up (sC S) r z2)) := by
  obtain ⟨h1, h2, h3, h4, h5, h6, h7⟩ := h
  refine ⟨h1, h2, h3, h4, fun q j hq hj => ?_, h6, h7⟩
  have h8 : cl (fr q + j) = va_up (sC S) r z1 q j := h5 q j hq hj
  show cl (fr q + j) = va_up (sC S) r z2 q j
  rw [h8]
  by_cases e : q = r
  · rw [e] at hj ⊢
    rw [va_ups, va_ups]
    exact he j hj
  · rw [va_upo e, va_upo e]
set_option maxRecDepth 100000 in
set_option maxHeartbeats 4000000 in
theorem r_turn (l : Launch) (D : va_G) (y : mY) (S0 : Nat) (M F : mp) (m0 : Nat) (B : Nat → Nat) (fr : Nat → Nat) (nc : Nat) (cl go bf : Nat → Int64) (cn : Nat → Int32) (S : St) (hW : MW y m0 B fr nc cl go bf cn S M) (hQ : MR fr nc cl bf cn S) (c0 : Nat) (hI : Inv c0 S) (t1 k1 : Int32) : ct l yX4_turn wsX4_turn 3 64 0 0 D y S0 M F [.ref m0, .int t1, .int k1] (fun v M' => v = some (.int (sp_turn S t1 k1).1) ∧ RM y m0 (sp_turn S t1 k1).2 M') := by
  refine ct_of cX4_turn 7 (some .int) [(0, .ref m0), (1, .int t1), (2, .int k1)] (by decide +kernel) rfl (Nat.le_of_ble_eq_true rfl) rfl ?_
  intro p e s m below meth c ls C hnm hl w
  have hx := C.1
  have hb := C.2.1
  have hi_X4 : ∀ w ∈ u_ws RX4 TX4 16, w ∈ wsX4_turn := by decide +kernel
  refine lv_iload_n hx hb dX4_turn_0 rfl (lv_at hl 1 rfl) ?_
  refine m_callS C w hl.1 (As := [.int t1]) (rest := []) (r_isTray l D y S0 M F t1) ggX4_turn_X4_isTray rfl (by decide +kernel) (by decide +kernel) (by decide +kernel) (show (_ ≠ _ ∧ _ ≠ _ ∧ _ = some 1) by decide +kernel) ⟨Nat.le_of_ble_eq_true rfl, Nat.le_of_ble_eq_true rfl⟩ rfl (Nat.le_of_ble_eq_true rfl) dX4_turn_1 ⟨Nat.le_of_ble_eq_true rfl, Nat.le_of_ble_eq_true rfl⟩ (fun v M1 H locs hq w => ?_)
  obtain ⟨rfl, hM1⟩ := hq
  rw [hM1] at w
  clear hM1 M1
  refine W.eq (g2 := F0 m 4 ls [.int (bI (inP t1 12))]) rfl ?_
  refine lv_if_ne (tgt := 10) hx hb dX4_turn_4 (by decide) (fun c_4 => ?_) (fun c_4 => ?_)
  · skip
    have n_4 : (inP t1 12) = true := bI_t c_4
    obtain ⟨t, ht, et⟩ := inP_t (by decide) n_4
    have hz := zT_le hI ht
    have hk13 := (hI.2.2.2.2.2.2.1 t ht).1
    have hm0 : sp_turn S t1 k1 = turn1 S t k1 := by unfold sp_turn; rw [if_neg (by simp [n_4]), et, cN_nI (by omega)]
    refine lv_aload_n hx hb dX4_turn_10 rfl (lv_at hl 0 rfl) ?_
    refine lv_iload_n hx hb dX4_turn_11 rfl (lv_at hl 1 rfl) ?_
    refine m_topi (y := nI t) et ?_
    refine m_callV C w hl.1 (As := [.int (nI t)]) (rest := []) (r_keep l D y S0 M F m0 B fr nc cl go bf bf cn S hW hQ c0 hI t ht) gX4_turn_X4_keep rfl hW.1 (T := TX4) (N := 16) rfl (show (_ = _ ∧ _ ≠ _ ∧ _ ≠ _ ∧ _ = some 1) by decide +kernel) ⟨Nat.le_of_ble_eq_true rfl, Nat.le_of_ble_eq_true rfl⟩ rfl (Nat.le_of_ble_eq_true rfl) dX4_turn_12 ⟨Nat.le_of_ble_eq_true rfl, Nat.le_of_ble_eq_true rfl⟩ (fun v M1 H locs hq w => ?_)
    obtain ⟨rfl, b1, hW1, hQ1⟩ := hq
    have hI1 := inv_kep hI ht
    refine W.eq (g2 := F0 m 15 ls []) rfl ?_
    by_cases h2 : 2 ≤ sH S t
    · skip
      rw [kep_row h2] at hW1 hQ1 hI1
      obtain ⟨eo, hr, ekd, hr5, hzT⟩ := rowI hI ht h2
      refine lv_aload_n hx hb dX4_turn_15 rfl (lv_at hl 0 rfl) ?_
      refine lv_iload_n hx hb dX4_turn_16 rfl (lv_at hl 1 rfl) ?_
      refine m_topi (y := nI t) et ?_
      refine m_callV C w hl.1 (As := [.int (nI t)]) (rest := []) (r_isRow l D y S0 M1 F m0 B fr nc cl go b1 b1 cn (wBf S (some (rowT S t)) (sC S (rowT S t))) hW1 hQ1 c0 hI1 t ht) gX4_turn_X4_isRow rfl hW1.1 (T := TX4) (N := 16) rfl (show (_ = _ ∧ _ ≠ _ ∧ _ ≠ _ ∧ _ = some 1) by decide +kernel) ⟨Nat.le_of_ble_eq_true rfl, Nat.le_of_ble_eq_true rfl⟩ rfl (Nat.le_of_ble_eq_true rfl) dX4_turn_17 ⟨Nat.le_of_ble_eq_true rfl, Nat.le_of_ble_eq_true rfl⟩ (fun v M1 H locs hq w => ?_)
      obtain ⟨rfl, hM1⟩ := hq
      rw [hM1] at w
      clear hM1 M1
      refine W.eq (g2 := F0 m 20 ls [.int (bI (decide (2 ≤ sH S t)))]) rfl ?_
      refine lv_if_ne (tgt := 33) hx hb dX4_turn_20 (by decide) (fun c_20 => ?_) (fun c_20 => ?_)
      · skip
        have n_20 : (decide (2 ≤ sH S t)) = true := bI_t c_20
        refine lv_aload_n hx hb dX4_turn_33 rfl (lv_at hl 0 rfl) ?_
        refine lv_iload_n hx hb dX4_turn_34 rfl (lv_at hl 1 rfl) ?_
        refine m_topi (y := nI t) et ?_
        refine m_callV C w hl.1 (As := [.int (nI t)]) (rest := []) (r_sizeOf l D y S0 M1 F m0 B fr nc cl go b1 b1 cn (wBf S (some (rowT S t)) (sC S (rowT S t))) hW1 hQ1 c0 hI1 t ht) gX4_turn_X4_sizeOf rfl hW1.1 (T := TX4) (N := 16) rfl (show (_ = _ ∧ _ ≠ _ ∧ _ ≠ _ ∧ _ = some 1) by decide +kernel) ⟨Nat.le_of_ble_eq_true rfl, Nat.le_of_ble_eq_true rfl⟩ rfl (Nat.le_of_ble_eq_true rfl) dX4_turn_35 ⟨Nat.le_of_ble_eq_true rfl, Nat.le_of_ble_eq_true rfl⟩ (fun v M1 H locs hq w => ?_)
        obtain ⟨rfl, hM1⟩ := hq
        rw [hM1] at w
        clear hM1 M1
        refine W.eq (g2 := F0 m 38 ls [.int (nI (zT S t))]) rfl ?_
        refine lv_istore_n (lv' := [(3, .int (nI (zT S t))), (0, .ref m0), (1, .int t1), (2, .int k1)]) hx hb dX4_turn_38 rfl hl (by decide) rfl (fun ls hl => ?_)
        refine lv_iconst (v := 0) hx hb dX4_turn_39 (by decide) ?_
        refine lv_istore (lv' := [(4, .int 0), (3, .int (nI (zT S t))), (0, .ref m0), (1, .int t1), (2, .int k1)]) hx hb dX4_turn_40 hl (by decide) rfl (fun ls hl => ?_)
        have hvz : ∀ j, j < sZ S (rowT S t) → val S (sK S (rowT S t)) ((fun j => sC S (rowT S t) (tiK k1 (zT S t) j)) j) := fun j hj => (hI.2.2.2.1 _ hr).2.2.2 _ (by have := tiK_lt k1 (m := zT S t) (i := j) (by omega); omega)
        have lp : ∀ (kf : Nat) (i : Nat) (c2 : Nat → Int64) (M2 : mp), (0 ≤ i ∧ i ≤ zT S t) → (MW y m0 B fr nc c2 go b1 cn (wBf S (some (rowT S t)) (sC S (rowT S t))) M2) → (MR fr nc c2 b1 cn (wRC (wBf S (some (rowT S t)) (sC S (rowT S t))) (va_up (sC S) (rowT S t) (fun j => if j < i then (fun j => sC S (rowT S t) (tiK k1 (zT S t) j)) j else sC S (rowT S t) j)))) →  ∀ (H : Heap) (locs : List Loc) (ls : Array Slot), zT S t - i = kf → mS D S0 M2 F s H locs → lv_has ls 7 [(4, .int (nI i)), (3, .int (nI (zT S t))), (2, .int k1), (1, .int t1), (0, .ref m0)] → W p l e { frames := 3, cells := 0, slots := 0, locals := 64 } s m ([.ref m0, .int t1, .int k1] : List Value).toArray below meth c H locs 0 0 (MQ below (mQ D S0 F (fun v M' => v = some (.int (sp_turn S t1 k1).1) ∧ RM y m0 (sp_turn S t1 k1).2 M')) ([.ref m0, .int t1, .int k1] : List Value).toArray s 0 0 (fun q => S0 ≤ q)) (F0 m 42 ls []) := by
          clear w hl
          intro kf
          induction kf using Nat.strongRecOn with
          | _ kf ih_lp =>
            intro i c2 M2 hi hW2 hQ2 H locs ls hkf w hl
            have hI2 : Inv c0 (wRC (wBf S (some (rowT S t)) (sC S (rowT S t))) (va_up (sC S) (rowT S t) (fun j => if j < i then (fun j => sC S (rowT S t) (tiK k1 (zT S t) j)) j else sC S (rowT S t) j))) := inv_step hI1 hr (fun j hj hj2 => hvz j hj2)
            refine lv_iload hx hb dX4_turn_42 (lv_at hl 0 rfl) ?_
            refine lv_iload_n hx hb dX4_turn_44 rfl (lv_at hl 1 rfl) ?_
            refine lv_icmp_ge (tgt := 95) hx hb dX4_turn_45 (by decide) (fun c_45 => ?_) (fun c_45 => ?_)
            · skip
              have n_45 : (zT S t) ≤ i := (nI_leI (by omega) (by omega)).mp c_45
              refine lv_aload_n hx hb dX4_turn_95 rfl (lv_at hl 4 rfl) ?_
              refine lv_iload_n hx hb dX4_turn_96 rfl (lv_at hl 1 rfl) ?_
              have hQ8 : MR fr nc c2 b1 cn (wRC (wBf S (some (rowT S t)) (sC S (rowT S t))) (va_up (sC S) (rowT S t) (fun j => sC S (rowT S t) (tiK k1 (zT S t) j)))) := MR.ext (S := (wBf S (some (rowT S t)) (sC S (rowT S t)))) hQ2 (fun j hj => if_pos (by have : j < sZ S (rowT S t) := hj; omega))
              have hI8 : Inv c0 (wRC (wBf S (some (rowT S t)) (sC S (rowT S t))) (va_up (sC S) (rowT S t) (fun j => sC S (rowT S t) (tiK k1 (zT S t) j)))) := inv_rc1 hI1 (fun j hj => hvz j hj)
              refine m_callV C w hl.1 (As := [.int (nI (zT S t))]) (rest := []) (r_told0 l D y S0 M2 F m0 B fr nc c2 go b1 b1 cn (wRC (wBf S (some (rowT S t)) (sC S (rowT S t))) (va_up (sC S) (rowT S t) (fun j => sC S (rowT S t) (tiK k1 (zT S t) j)))) hW2 hQ8 c0 hI8 (nI (zT S t)) (nI_ok (by omega))) gX4_turn_X4_told0 rfl hW2.1 (T := TX4) (N := 16) rfl (show (_ = _ ∧ _ ≠ _ ∧ _ ≠ _ ∧ _ = some 1) by decide +kernel) ⟨Nat.le_of_ble_eq_true rfl, Nat.le_of_ble_eq_true rfl⟩ rfl (Nat.le_of_ble_eq_true rfl) dX4_turn_97 ⟨Nat.le_of_ble_eq_true rfl, Nat.le_of_ble_eq_true rfl⟩ (fun v M1 H locs hq w => ?_)
              obtain ⟨rfl, c9, hW9, hQ9⟩ := hq
              refine W.eq (g2 := F0 m 100 ls [.int (nI (zT S t))]) rfl ?_
              exact m_iret C w dX4_turn_100 (by omega) (by omega) (⟨by rw [hm0]; unfold turn1; rw [if_neg (by omega)], by rw [hm0]; unfold turn1; rw [if_neg (by omega), kep_row h2]; exact ⟨B, fr, nc, c2, go, b1, c9, hW9, hQ9⟩⟩)
            · skip
              have n_45 : ¬ (zT S t) ≤ i := fun h => absurd ((nI_leI (by omega) (by omega)).mpr h) c_45
              refine lv_iload hx hb dX4_turn_48 (lv_at hl 0 rfl) ?_
              refine lv_i2l (v := lN i) hx hb dX4_turn_50 (nI_l (by omega)) ?_
              refine lv_iload_n hx hb dX4_turn_51 rfl (lv_at hl 2 rfl) ?_
              refine lv_i2l hx hb dX4_turn_52 rfl ?_
              refine lv_ladd hx hb dX4_turn_53 ?_
              refine lv_iload_n hx hb dX4_turn_54 rfl (lv_at hl 1 rfl) ?_
              refine lv_i2l (v := lN (zT S t)) hx hb dX4_turn_55 (nI_l (by omega)) ?_
              refine lv_lrem hx hb dX4_turn_56 (lN_ne (by omega) (by omega)) ?_
              refine lv_topl (fun zr er => ?_)
              refine lv_lstore (lv' := [(5, .long zr), (4, .int (nI i)), (3, .int (nI (zT S t))), (2, .int k1), (1, .int t1), (0, .ref m0)]) hx hb dX4_turn_57 hl (by decide) rfl (fun ls hl => ?_)
              refine lv_aload_n hx hb dX4_turn_59 rfl (lv_at hl 5 rfl) ?_
              refine lv_iload_n hx hb dX4_turn_60 rfl (lv_at hl 4 rfl) ?_
              refine m_topi (y := nI t) et ?_
              refine lv_iload hx hb dX4_turn_61 (lv_at hl 1 rfl) ?_
              refine lv_aload_n hx hb dX4_turn_63 rfl (lv_at hl 5 rfl) ?_
              refine m_get C w hW2.1 (index := 39) (T := TX4) (N := 16) rfl hi_X4 12 (by decide) (by decide +kernel) rfl dX4_turn_64 ?_
              refine lv_lload hx hb dX4_turn_67 (lv_at hl 0 rfl) ?_
              refine lv_lconst (v := 0) hx hb dX4_turn_69 (by decide) ?_
              refine W.lcmp hx hb dX4_turn_70 ?_
              refine lv_if_ge (tgt := 82) hx hb dX4_turn_71 (by decide) (fun c_71 => ?_) (fun c_71 => ?_)
              · skip
                have n_71 := (lg_cmp_ge _ _).mp c_71
                refine lv_lload hx hb dX4_turn_82 (lv_at hl 0 rfl) ?_
                refine m_topl (y := lN (tiK k1 (zT S t) i)) (er.trans (tiK_pos k1 (by omega) (by omega) (by omega) (by rw [← er]; exact n_71))) ?_
                have htl := tiK_lt k1 (m := zT S t) (i := i) (by omega)
                refine lv_l2i (v := nI (tiK k1 (zT S t) i)) hx hb dX4_turn_84 (lN_i _) ?_
                refine m_lald C w hW2.a9 (tiK k1 (zT S t) i) rfl (by omega) (by omega) dX4_turn_85 ?_
                refine m_topl (y := (fun j => sC S (rowT S t) (tiK k1 (zT S t) j)) i) (hQ1.2.2.2.2.2.1 (rowT S t) _ rfl (show _ < sZ S (rowT S t) by omega)) ?_
                refine m_callV C w hl.1 (As := [.int (nI t), .int (nI i), .long ((fun j => sC S (rowT S t) (tiK k1 (zT S t) j)) i)]) (rest := []) (r_set l D y S0 M2 F m0 B fr nc c2 go b1 b1 cn (wRC (wBf S (some (rowT S t)) (sC S (rowT S t))) (va_up (sC S) (rowT S t) (fun j => if j < i then (fun j => sC S (rowT S t) (tiK k1 (zT S t) j)) j else sC S (rowT S t) j))) hW2 hQ2 c0 hI2 t ht h2 i (show i < zT S t by omega) ((fun j => sC S (rowT S t) (tiK k1 (zT S t) j)) i)) gX4_turn_X4_set rfl hW2.1 (T := TX4) (N := 16) rfl (show (_ = _ ∧ _ ≠ _ ∧ _ ≠ _ ∧ _ = some 3) by decide +kernel) ⟨Nat.le_of_ble_eq_true rfl, Nat.le_of_ble_eq_true rfl⟩ rfl (Nat.le_of_ble_eq_true rfl) dX4_turn_86 ⟨Nat.le_of_ble_eq_true rfl, Nat.le_of_ble_eq_true rfl⟩ (fun v M1 H locs hq w => ?_)
                obtain ⟨rfl, hW3, hQ3⟩ := hq
                have hQ3 : MR fr nc (va_up c2 (fr (rowT S t) + i) ((fun j => sC S (rowT S t) (tiK k1 (zT S t) j)) i)) b1 cn (wRC (wBf S (some (rowT S t)) (sC S (rowT S t))) (va_up (sC S) (rowT S t) (fun j => if j < i + 1 then (fun j => sC S (rowT S t) (tiK k1 (zT S t) j)) j else sC S (rowT S t) j))) := MR_step (S := (wBf S (some (rowT S t)) (sC S (rowT S t)))) (r := rowT S t) (i := i) (z := (fun j => sC S (rowT S t) (tiK k1 (zT S t) j))) hQ3
                have hW3 : MW y m0 B fr nc (va_up c2 (fr (rowT S t) + i) ((fun j => sC S (rowT S t) (tiK k1 (zT S t) j)) i)) go b1 cn (wBf S (some (rowT S t)) (sC S (rowT S t))) M1 := hW3
                refine W.eq (g2 := F0 m 89 ls []) rfl ?_
                refine lv_iinc (v := nI (i + 1)) (lv' := [(4, .int (nI (i + 1))), (5, .long zr), (3, .int (nI (zT S t))), (2, .int k1), (1, .int t1), (0, .ref m0)]) hx hb dX4_turn_89 hl (k := 1) rfl (by first | exact nI_1 _ | exact nI_add _ _ | rfl) (by decide) rfl (fun ls hl => ?_)
                refine lv_goto (tgt := 42) hx hb dX4_turn_92 (by decide) ?_
                exact ih_lp (zT S t - (i + 1)) (by omega) (i + 1) _ _ ⟨by omega, by omega⟩ hW3 hQ3 _ _ ls rfl w (lv_sub hl [0, 2, 3, 4, 5] rfl)
              · skip
                have n_71 := (not_congr (lg_cmp_ge _ _)).mp c_71
                refine lv_lload hx hb dX4_turn_74 (lv_at hl 0 rfl) ?_
                refine lv_iload_n hx hb dX4_turn_76 rfl (lv_at hl 2 rfl) ?_
                refine lv_i2l (v := lN (zT S t)) hx hb dX4_turn_77 (nI_l (by omega)) ?_
                refine lv_ladd hx hb dX4_turn_78 ?_
                refine lv_goto (tgt := 84) hx hb dX4_turn_79 (by decide) ?_
                refine m_topl (y := lN (tiK k1 (zT S t) i)) ((congrArg (· + lN (zT S t)) er).trans (tiK_neg k1 (by omega) (by omega) (by omega) (by rw [← er]; exact n_71))) ?_
                have htl := tiK_lt k1 (m := zT S t) (i := i) (by omega)
                refine lv_l2i (v := nI (tiK k1 (zT S t) i)) hx hb dX4_turn_84 (lN_i _) ?_
                refine m_lald C w hW2.a9 (tiK k1 (zT S t) i) rfl (by omega) (by omega) dX4_turn_85 ?_
                refine m_topl (y := (fun j => sC S (rowT S t) (tiK k1 (zT S t) j)) i) (hQ1.2.2.2.2.2.1 (rowT S t) _ rfl (show _ < sZ S (rowT S t) by omega)) ?_
                refine m_callV C w hl.1 (As := [.int (nI t), .int (nI i), .long ((fun j => sC S (rowT S t) (tiK k1 (zT S t) j)) i)]) (rest := []) (r_set l D y S0 M2 F m0 B fr nc c2 go b1 b1 cn (wRC (wBf S (some (rowT S t)) (sC S (rowT S t))) (va_up (sC S) (rowT S t) (fun j => if j < i then (fun j => sC S (rowT S t) (tiK k1 (zT S t) j)) j else sC S (rowT S t) j))) hW2 hQ2 c0 hI2 t ht h2 i (show i < zT S t by omega) ((fun j => sC S (rowT S t) (tiK k1 (zT S t) j)) i)) gX4_turn_X4_set rfl hW2.1 (T := TX4) (N := 16) rfl (show (_ = _ ∧ _ ≠ _ ∧ _ ≠ _ ∧ _ = some 3) by decide +kernel) ⟨Nat.le_of_ble_eq_true rfl, Nat.le_of_ble_eq_true rfl⟩ rfl (Nat.le_of_ble_eq_true rfl) dX4_turn_86 ⟨Nat.le_of_ble_eq_true rfl, Nat.le_of_ble_eq_true rfl⟩ (fun v M1 H locs hq w => ?_)
                obtain ⟨rfl, hW3, hQ3⟩ := hq
                have hQ3 : MR fr nc (va_up c2 (fr (rowT S t) + i) ((fun j => sC S (rowT S t) (tiK k1 (zT S t) j)) i)) b1 cn (wRC (wBf S (some (rowT S t)) (sC S (rowT S t))) (va_up (sC S) (rowT S t) (fun j => if j < i + 1 then (fun j => sC S (rowT S t) (tiK k1 (zT S t) j)) j else sC S (rowT S t) j))) := MR_step (S := (wBf S (some (rowT S t)) (sC S (rowT S t)))) (r := rowT S t) (i := i) (z := (fun j => sC S (rowT S t) (tiK k1 (zT S t) j))) hQ3
                have hW3 : MW y m0 B fr nc (va_up c2 (fr (rowT S t) + i) ((fun j => sC S (rowT S t) (tiK k1 (zT S t) j)) i)) go b1 cn (wBf S (some (rowT S t)) (sC S (rowT S t))) M1 := hW3
                refine W.eq (g2 := F0 m 89 ls []) rfl ?_
                refine lv_iinc (v := nI (i + 1)) (lv' := [(4, .int (nI (i + 1))), (5, .long zr), (3, .int (nI (zT S t))), (2, .int k1), (1, .int t1), (0, .ref m0)]) hx hb dX4_turn_89 hl (k := 1) rfl (by first | exact nI_1 _ | exact nI_add _ _ | rfl) (by decide) rfl (fun ls hl => ?_)
                refine lv_goto (tgt := 42) hx hb dX4_turn_92 (by decide) ?_
                exact ih_lp (zT S t - (i + 1)) (by omega) (i + 1) _ _ ⟨by omega, by omega⟩ hW3 hQ3 _ _ ls rfl w (lv_sub hl [0, 2, 3, 4, 5] rfl)
        exact lp _ 0 cl M1 ⟨Nat.le_refl _, by omega⟩ hW1 (MR_0 (S := (wBf S (some (rowT S t)) (sC S (rowT S t)))) (r := rowT S t) (z := (fun j => sC S (rowT S t) (tiK k1 (zT S t) j))) (fun j hj => by omega) hQ1) _ _ ls rfl w (lv_sub hl [0, 1, 4, 3, 2] rfl)
      · skip
        have n_20 : (decide (2 ≤ sH S t)) = false := bI_f c_20
        exact absurd h2 (of_decide_eq_false n_20)
    · skip
      rw [kep_no h2] at hW1 hQ1 hI1
      refine lv_aload_n hx hb dX4_turn_15 rfl (lv_at hl 0 rfl) ?_
      refine lv_iload_n hx hb dX4_turn_16 rfl (lv_at hl 1 rfl) ?_
      refine m_topi (y := nI t) et ?_
      refine m_callV C w hl.1 (As := [.int (nI t)]) (rest := []) (r_isRow l D y S0 M1 F m0 B fr nc cl go b1 b1 cn (wBf S none (sF S)) hW1 hQ1 c0 hI1 t ht) gX4_turn_X4_isRow rfl hW1.1 (T := TX4) (N := 16) rfl (show (_ = _ ∧ _ ≠ _ ∧ _ ≠ _ ∧ _ = some 1) by decide +kernel) ⟨Nat.le_of_ble_eq_true rfl, Nat.le_of_ble_eq_true rfl⟩ rfl (Nat.le_of_ble_eq_true rfl) dX4_turn_17 ⟨Nat.le_of_ble_eq_true rfl, Nat.le_of_ble_eq_true rfl⟩ (fun v M1 H locs hq w => ?_)
      obtain ⟨rfl, hM1⟩ := hq
      rw [hM1] at w
      clear hM1 M1
      refine W.eq (g2 := F0 m 20 ls [.int (bI (decide (2 ≤ sH S t)))]) rfl ?_
      refine lv_if_ne (tgt := 33) hx hb dX4_turn_20 (by decide) (fun c_20 => ?_) (fun c_20 => ?_)
      · skip
        have n_20 : (decide (2 ≤ sH S t)) = true := bI_t c_20
        exact absurd (of_decide_eq_true n_20) h2
      · skip
        have n_20 : (decide (2 ≤ sH S t)) = false := bI_f c_20
        refine lv_aload_n hx hb dX4_turn_23 rfl (lv_at hl 0 rfl) ?_
        refine lv_aload_n hx hb dX4_turn_24 rfl (lv_at hl 0 rfl) ?_
        refine lv_iload_n hx hb dX4_turn_25 rfl (lv_at hl 1 rfl) ?_
        refine m_topi (y := nI t) et ?_
        refine m_callV C w hl.1 (As := [.int (nI t)]) (rest := [.ref m0]) (r_lacks l D y S0 M1 F m0 B fr nc cl go b1 b1 cn (wBf S none (sF S)) hW1 hQ1 c0 hI1 t ht) gX4_turn_X4_lacks rfl hW1.1 (T := TX4) (N := 16) rfl (show (_ = _ ∧ _ ≠ _ ∧ _ ≠ _ ∧ _ = some 1) by decide +kernel) ⟨Nat.le_of_ble_eq_true rfl, Nat.le_of_ble_eq_true rfl⟩ rfl (Nat.le_of_ble_eq_true rfl) dX4_turn_26 ⟨Nat.le_of_ble_eq_true rfl, Nat.le_of_ble_eq_true rfl⟩ (fun v M1 H locs hq w => ?_)
        obtain ⟨rfl, hM1⟩ := hq
        rw [hM1] at w
        clear hM1 M1
        refine W.eq (g2 := F0 m 29 ls [.int (fR (sH S t)), .ref m0]) rfl ?_
        refine m_callV C w hl.1 (As := [.int (fR (sH S t))]) (rest := []) (r_told0 l D y S0 M1 F m0 B fr nc cl go b1 b1 cn (wBf S none (sF S)) hW1 hQ1 c0 hI1 (fR (sH S t)) fR_ok) gX4_turn_X4_told0 rfl hW1.1 (T := TX4) (N := 16) rfl (show (_ = _ ∧ _ ≠ _ ∧ _ ≠ _ ∧ _ = some 1) by decide +kernel) ⟨Nat.le_of_ble_eq_true rfl, Nat.le_of_ble_eq_true rfl⟩ rfl (Nat.le_of_ble_eq_true rfl) dX4_turn_29 ⟨Nat.le_of_ble_eq_true rfl, Nat.le_of_ble_eq_true rfl⟩ (fun v M1 H locs hq w => ?_)
        obtain ⟨rfl, c9, hW9, hQ9⟩ := hq
        refine W.eq (g2 := F0 m 32 ls [.int (fR (sH S t))]) rfl ?_
        exact m_iret C w dX4_turn_32 (by omega) (by omega) (⟨by rw [hm0]; unfold turn1; rw [if_pos (by omega)], by rw [hm0]; unfold turn1; rw [if_pos (by omega), kep_no h2]; exact ⟨B, fr, nc, cl, go, b1, c9, hW9, hQ9⟩⟩)
  · skip
    have n_4 : (inP t1 12) = false := bI_f c_4
    refine lv_bipush (v := (-6)) hx hb dX4_turn_7 (by decide) ?_
    exact m_iret C w dX4_turn_9 (by omega) (by omega) (⟨by rw [(show sp_turn S t1 k1 = (-6, S) by unfold sp_turn; rw [if_pos (by first | (simp [n_4]; done))])], by rw [(show sp_turn S t1 k1 = (-6, S) by unfold sp_turn; rw [if_pos (by first | (simp [n_4]; done))])]; exact ⟨B, fr, nc, cl, go, bf, cn, hW, hQ⟩⟩)
set_option maxRecDepth 100000 in
set_option maxHeartbeats 4000000 in
theorem r_spread (l : Launch) (D : va_G) (y : mY) (S0 : Nat) (M F : mp) (m0 : Nat) (B : Nat → Nat) (fr : Nat → Nat) (nc : Nat) (cl go bf : Nat → Int64) (cn : Nat → Int32) (S : St) (hW : MW y m0 B fr nc cl go bf cn S M) (hQ : MR fr nc cl bf cn S) (c0 : Nat) (hI : Inv c0 S) (t1 n1 : Int32) : ct l yX4_spread wsX4_spread 3 64 0 0 D y S0 M F [.ref m0, .int t1, .int n1] (fun v M' => v = some (.int (sp_spread S t1 n1).1) ∧ RM y m0 (sp_spread S t1 n1).2 M') := by
  refine ct_of cX4_spread 5 (some .int) [(0, .ref m0), (1, .int t1), (2, .int n1)] (by decide +kernel) rfl (Nat.le_of_ble_eq_true rfl) rfl ?_
  intro p e s m below meth c ls C hnm hl w
  have hx := C.1
  have hb := C.2.1
  have hi_X4 : ∀ w ∈ u_ws RX4 TX4 16, w ∈ wsX4_spread := by decide +kernel
  refine lv_iload_n hx hb dX4_spread_0 rfl (lv_at hl 1 rfl) ?_
  refine m_callS C w hl.1 (As := [.int t1]) (rest := []) (r_isTray l D y S0 M F t1) ggX4_spread_X4_isTray rfl (by decide +kernel) (by decide +kernel) (by decide +kernel) (show (_ ≠ _ ∧ _ ≠ _ ∧ _ = some 1) by decide +kernel) ⟨Nat.le_of_ble_eq_true rfl, Nat.le_of_ble_eq_true rfl⟩ rfl (Nat.le_of_ble_eq_true rfl) dX4_spread_1 ⟨Nat.le_of_ble_eq_true rfl, Nat.le_of_ble_eq_true rfl⟩ (fun v M1 H locs hq w => ?_)
  obtain ⟨rfl, hM1⟩ := hq
  rw [hM1] at w
  clear hM1 M1
  refine W.eq (g2 := F0 m 4 ls [.int (bI (inP t1 12))]) rfl ?_
  refine lv_if_ne (tgt := 10) hx hb dX4_spread_4 (by decide) (fun c_4 => ?_) (fun c_4 => ?_)
  · skip
    have n_4 : (inP t1 12) = true := bI_t c_4
    obtain ⟨t, ht, et⟩ := inP_t (by decide) n_4
    have hz := zT_le hI ht
    have hk13 := (hI.2.2.2.2.2.2.1 t ht).1
    have hm0 : sp_spread S t1 n1 = spr1 S t n1 := by unfold sp_spread; rw [if_neg (by simp [n_4]), et, cN_nI (by omega)]
    refine lv_aload_n hx hb dX4_spread_10 rfl (lv_at hl 0 rfl) ?_
    refine lv_iload_n hx hb dX4_spread_11 rfl (lv_at hl 1 rfl) ?_
    refine m_topi (y := nI t) et ?_
    refine m_callV C w hl.1 (As := [.int (nI t)]) (rest := []) (r_keep l D y S0 M F m0 B fr nc cl go bf bf cn S hW hQ c0 hI t ht) gX4_spread_X4_keep rfl hW.1 (T := TX4) (N := 16) rfl (show (_ = _ ∧ _ ≠ _ ∧ _ ≠ _ ∧ _ = some 1) by decide +kernel) ⟨Nat.le_of_ble_eq_true rfl, Nat.le_of_ble_eq_true rfl⟩ rfl (Nat.le_of_ble_eq_true rfl) dX4_spread_12 ⟨Nat.le_of_ble_eq_true rfl, Nat.le_of_ble_eq_true rfl⟩ (fun v M1 H locs hq w => ?_)
    obtain ⟨rfl, b1, hW1, hQ1⟩ := hq
    have hI1 := inv_kep hI ht
    refine W.eq (g2 := F0 m 15 ls []) rfl ?_
    by_cases h2 : 2 ≤ sH S t
    · skip
      rw [kep_row h2] at hW1 hQ1 hI1
      obtain ⟨eo, hr, ekd, hr5, hzT⟩ := rowI hI ht h2
      refine lv_aload_n hx hb dX4_spread_15 rfl (lv_at hl 0 rfl) ?_
      refine lv_iload_n hx hb dX4_spread_16 rfl (lv_at hl 1 rfl) ?_
      refine m_topi (y := nI t) et ?_
      refine m_callV C w hl.1 (As := [.int (nI t)]) (rest := []) (r_isRow l D y S0 M1 F m0 B fr nc cl go b1 b1 cn (wBf S (some (rowT S t)) (sC S (rowT S t))) hW1 hQ1 c0 hI1 t ht) gX4_spread_X4_isRow rfl hW1.1 (T := TX4) (N := 16) rfl (show (_ = _ ∧ _ ≠ _ ∧ _ ≠ _ ∧ _ = some 1) by decide +kernel) ⟨Nat.le_of_ble_eq_true rfl, Nat.le_of_ble_eq_true rfl⟩ rfl (Nat.le_of_ble_eq_true rfl) dX4_spread_17 ⟨Nat.le_of_ble_eq_true rfl, Nat.le_of_ble_eq_true rfl⟩ (fun v M1 H locs hq w => ?_)
      obtain ⟨rfl, hM1⟩ := hq
      rw [hM1] at w
      clear hM1 M1
      refine W.eq (g2 := F0 m 20 ls [.int (bI (decide (2 ≤ sH S t)))]) rfl ?_
      refine lv_if_ne (tgt := 33) hx hb dX4_spread_20 (by decide) (fun c_20 => ?_) (fun c_20 => ?_)
      · skip
        have n_20 : (decide (2 ≤ sH S t)) = true := bI_t c_20
        refine lv_aload_n hx hb dX4_spread_33 rfl (lv_at hl 0 rfl) ?_
        refine lv_iload_n hx hb dX4_spread_34 rfl (lv_at hl 1 rfl) ?_
        refine m_topi (y := nI t) et ?_
        refine m_callV C w hl.1 (As := [.int (nI t)]) (rest := []) (r_sizeOf l D y S0 M1 F m0 B fr nc cl go b1 b1 cn (wBf S (some (rowT S t)) (sC S (rowT S t))) hW1 hQ1 c0 hI1 t ht) gX4_spread_X4_sizeOf rfl hW1.1 (T := TX4) (N := 16) rfl (show (_ = _ ∧ _ ≠ _ ∧ _ ≠ _ ∧ _ = some 1) by decide +kernel) ⟨Nat.le_of_ble_eq_true rfl, Nat.le_of_ble_eq_true rfl⟩ rfl (Nat.le_of_ble_eq_true rfl) dX4_spread_35 ⟨Nat.le_of_ble_eq_true rfl, Nat.le_of_ble_eq_true rfl⟩ (fun v M1 H locs hq w => ?_)
        obtain ⟨rfl, hM1⟩ := hq
        rw [hM1] at w
        clear hM1 M1
        refine W.eq (g2 := F0 m 38 ls [.int (nI (zT S t))]) rfl ?_
        refine lv_istore_n (lv' := [(3, .int (nI (zT S t))), (0, .ref m0), (1, .int t1), (2, .int n1)]) hx hb dX4_spread_38 rfl hl (by decide) rfl (fun ls hl => ?_)
        refine lv_iload_n hx hb dX4_spread_39 rfl (lv_at hl 3 rfl) ?_
        refine lv_iconst (v := 1) hx hb dX4_spread_40 (by decide) ?_
        refine lv_iload_n hx hb dX4_spread_41 rfl (lv_at hl 0 rfl) ?_
        refine m_callS C w hl.1 (As := [.int n1, .int 1, .int (nI (zT S t))]) (rest := []) (r_in l D y S0 M1 F n1 1 (nI (zT S t))) ggX4_spread_X4_in rfl (by decide +kernel) (by decide +kernel) (by decide +kernel) (show (_ ≠ _ ∧ _ ≠ _ ∧ _ = some 3) by decide +kernel) ⟨Nat.le_of_ble_eq_true rfl, Nat.le_of_ble_eq_true rfl⟩ rfl (Nat.le_of_ble_eq_true rfl) dX4_spread_42 ⟨Nat.le_of_ble_eq_true rfl, Nat.le_of_ble_eq_true rfl⟩ (fun v M1 H locs hq w => ?_)
        obtain ⟨rfl, hM1⟩ := hq
        rw [hM1] at w
        clear hM1 M1
        refine W.eq (g2 := F0 m 45 ls [.int (bI (inR n1 1 (nI (zT S t))))]) rfl ?_
        refine lv_if_ne (tgt := 55) hx hb dX4_spread_45 (by decide) (fun c_45 => ?_) (fun c_45 => ?_)
        · skip
          have n_45 : (inR n1 1 (nI (zT S t))) = true := bI_t c_45
          have hin : inR n1 1 (nI (zT S t)) = true := n_45
          unfold inR at hin
          simp only [Bool.and_eq_true, Bool.not_eq_true', decide_eq_false_iff_not] at hin
          obtain ⟨nn, hnl, en⟩ := nI_of2 (M := nI (zT S t)) (n := zT S t) (nI_toInt (by omega)) (fun h => hin.1 (Int32.lt_trans h (by decide))) (Int32.not_lt.mp hin.2)
          have hn1 : 1 ≤ nn := by
            rcases Nat.eq_zero_or_pos nn with h | h
            · rw [en, h] at hin; exact absurd (show nI 0 < 1 by decide) hin.1
            · exact h
          have hvz : ∀ j, j < sZ S (rowT S t) → val S (sK S (rowT S t)) ((fun j => sC S (rowT S t) (if j < nn then j else j % nn)) j) := fun j hj => (hI.2.2.2.1 _ hr).2.2.2 _ (by
            show (if j < nn then j else j % nn) < _
            by_cases e : j < nn
            · rw [if_pos e]; exact hj
            · rw [if_neg e]; exact Nat.lt_of_le_of_lt (Nat.mod_le _ _) hj)
          refine lv_iload_n hx hb dX4_spread_55 rfl (lv_at hl 3 rfl) ?_
          refine m_topi (y := nI nn) en ?_
          refine lv_istore (lv' := [(4, .int (nI nn)), (3, .int (nI (zT S t))), (0, .ref m0), (1, .int t1), (2, .int n1)]) hx hb dX4_spread_56 hl (by decide) rfl (fun ls hl => ?_)
          have lp : ∀ (kf : Nat) (i : Nat) (c2 : Nat → Int64) (M2 : mp), (nn ≤ i ∧ i ≤ zT S t) → (MW y m0 B fr nc c2 go b1 cn (wBf S (some (rowT S t)) (sC S (rowT S t))) M2) → (MR fr nc c2 b1 cn (wRC (wBf S (some (rowT S t)) (sC S (rowT S t))) (va_up (sC S) (rowT S t) (fun j => if j < i then (fun j => sC S (rowT S t) (if j < nn then j else j % nn)) j else sC S (rowT S t) j)))) →  ∀ (H : Heap) (locs : List Loc) (ls : Array Slot), zT S t - i = kf → mS D S0 M2 F s H locs → lv_has ls 5 [(4, .int (nI i)), (3, .int (nI (zT S t))), (2, .int n1), (1, .int t1), (0, .ref m0)] → W p l e { frames := 3, cells := 0, slots := 0, locals := 64 } s m ([.ref m0, .int t1, .int n1] : List Value).toArray below meth c H locs 0 0 (MQ below (mQ D S0 F (fun v M' => v = some (.int (sp_spread S t1 n1).1) ∧ RM y m0 (sp_spread S t1 n1).2 M')) ([.ref m0, .int t1, .int n1] : List Value).toArray s 0 0 (fun q => S0 ≤ q)) (F0 m 58 ls []) := by
            clear w hl
            intro kf
            induction kf using Nat.strongRecOn with
            | _ kf ih_lp =>
              intro i c2 M2 hi hW2 hQ2 H locs ls hkf w hl
              have hI2 : Inv c0 (wRC (wBf S (some (rowT S t)) (sC S (rowT S t))) (va_up (sC S) (rowT S t) (fun j => if j < i then (fun j => sC S (rowT S t) (if j < nn then j else j % nn)) j else sC S (rowT S t) j))) := inv_step hI1 hr (fun j hj hj2 => hvz j hj2)
              refine lv_iload hx hb dX4_spread_58 (lv_at hl 0 rfl) ?_
              refine lv_iload_n hx hb dX4_spread_60 rfl (lv_at hl 1 rfl) ?_
              refine lv_icmp_ge (tgt := 86) hx hb dX4_spread_61 (by decide) (fun c_61 => ?_) (fun c_61 => ?_)
              · skip
                have n_61 : (zT S t) ≤ i := (nI_leI (by omega) (by omega)).mp c_61
                refine lv_aload_n hx hb dX4_spread_86 rfl (lv_at hl 4 rfl) ?_
                refine lv_iload_n hx hb dX4_spread_87 rfl (lv_at hl 1 rfl) ?_
                have hQ8 : MR fr nc c2 b1 cn (wRC (wBf S (some (rowT S t)) (sC S (rowT S t))) (va_up (sC S) (rowT S t) (fun j => sC S (rowT S t) (if j < nn then j else j % nn)))) := MR.ext (S := (wBf S (some (rowT S t)) (sC S (rowT S t)))) hQ2 (fun j hj => if_pos (by have : j < sZ S (rowT S t) := hj; omega))
                have hI8 : Inv c0 (wRC (wBf S (some (rowT S t)) (sC S (rowT S t))) (va_up (sC S) (rowT S t) (fun j => sC S (rowT S t) (if j < nn then j else j % nn)))) := inv_rc1 hI1 (fun j hj => hvz j hj)
                refine m_callV C w hl.1 (As := [.int (nI (zT S t))]) (rest := []) (r_told0 l D y S0 M2 F m0 B fr nc c2 go b1 b1 cn (wRC (wBf S (some (rowT S t)) (sC S (rowT S t))) (va_up (sC S) (rowT S t) (fun j => sC S (rowT S t) (if j < nn then j else j % nn)))) hW2 hQ8 c0 hI8 (nI (zT S t)) (nI_ok (by omega))) gX4_spread_X4_told0 rfl hW2.1 (T := TX4) (N := 16) rfl (show (_ = _ ∧ _ ≠ _ ∧ _ ≠ _ ∧ _ = some 1) by decide +kernel) ⟨Nat.le_of_ble_eq_true rfl, Nat.le_of_ble_eq_true rfl⟩ rfl (Nat.le_of_ble_eq_true rfl) dX4_spread_88 ⟨Nat.le_of_ble_eq_true rfl, Nat.le_of_ble_eq_true rfl⟩ (fun v M1 H locs hq w => ?_)
                obtain ⟨rfl, c9, hW9, hQ9⟩ := hq
                refine W.eq (g2 := F0 m 91 ls [.int (nI (zT S t))]) rfl ?_
                exact m_iret C w dX4_spread_91 (by omega) (by omega) (⟨by rw [hm0]; unfold spr1; rw [if_neg (by omega), if_neg (by rw [show (!decide (n1 < 1) && !decide (nI (zT S t) < n1)) = true from n_45]; decide)], by rw [hm0]; unfold spr1; rw [if_neg (by omega), if_neg (by rw [show (!decide (n1 < 1) && !decide (nI (zT S t) < n1)) = true from n_45]; decide), kep_row h2, en, cN_nI (by omega)]; exact ⟨B, fr, nc, c2, go, b1, c9, hW9, hQ9⟩⟩)
              · skip
                have n_61 : ¬ (zT S t) ≤ i := fun h => absurd ((nI_leI (by omega) (by omega)).mpr h) c_61
                refine lv_aload_n hx hb dX4_spread_64 rfl (lv_at hl 4 rfl) ?_
                refine lv_iload_n hx hb dX4_spread_65 rfl (lv_at hl 3 rfl) ?_
                refine m_topi (y := nI t) et ?_
                refine lv_iload hx hb dX4_spread_66 (lv_at hl 0 rfl) ?_
                refine lv_aload_n hx hb dX4_spread_68 rfl (lv_at hl 4 rfl) ?_
                refine m_get C w hW2.1 (index := 39) (T := TX4) (N := 16) rfl hi_X4 12 (by decide) (by decide +kernel) rfl dX4_spread_69 ?_
                refine lv_iload hx hb dX4_spread_72 (lv_at hl 0 rfl) ?_
                refine lv_iload_n hx hb dX4_spread_74 rfl (lv_at hl 2 rfl) ?_
                refine m_topi (y := nI nn) en ?_
                refine lv_irem hx hb dX4_spread_75 (nI_ne0 (by omega) (by omega)) ?_
                refine m_topi (y := nI (i % nn)) (pk_rem (by omega) (by omega) (by omega)) ?_
                have hml := Nat.mod_lt i (show 0 < nn by omega)
                refine m_lald C w hW2.a9 (i % nn) rfl (by omega) (by omega) dX4_spread_76 ?_
                refine m_topl (y := (fun j => sC S (rowT S t) (if j < nn then j else j % nn)) i) ((hQ1.2.2.2.2.2.1 (rowT S t) (i % nn) rfl (show i % nn < sZ S (rowT S t) by omega)).trans (by show sC S _ (i % nn) = sC S _ (if i < nn then i else i % nn); rw [if_neg (by omega)])) ?_
                refine m_callV C w hl.1 (As := [.int (nI t), .int (nI i), .long ((fun j => sC S (rowT S t) (if j < nn then j else j % nn)) i)]) (rest := []) (r_set l D y S0 M2 F m0 B fr nc c2 go b1 b1 cn (wRC (wBf S (some (rowT S t)) (sC S (rowT S t))) (va_up (sC S) (rowT S t) (fun j => if j < i then (fun j => sC S (rowT S t) (if j < nn then j else j % nn)) j else sC S (rowT S t) j))) hW2 hQ2 c0 hI2 t ht h2 i (show i < zT S t by omega) ((fun j => sC S (rowT S t) (if j < nn then j else j % nn)) i)) gX4_spread_X4_set rfl hW2.1 (T := TX4) (N := 16) rfl (show (_ = _ ∧ _ ≠ _ ∧ _ ≠ _ ∧ _ = some 3) by decide +kernel) ⟨Nat.le_of_ble_eq_true rfl, Nat.le_of_ble_eq_true rfl⟩ rfl (Nat.le_of_ble_eq_true rfl) dX4_spread_77 ⟨Nat.le_of_ble_eq_true rfl, Nat.le_of_ble_eq_true rfl⟩ (fun v M1 H locs hq w => ?_)
                obtain ⟨rfl, hW3, hQ3⟩ := hq
                have hQ3 : MR fr nc (va_up c2 (fr (rowT S t) + i) ((fun j => sC S (rowT S t) (if j < nn then j else j % nn)) i)) b1 cn (wRC (wBf S (some (rowT S t)) (sC S (rowT S t))) (va_up (sC S) (rowT S t) (fun j => if j < i + 1 then (fun j => sC S (rowT S t) (if j < nn then j else j % nn)) j else sC S (rowT S t) j))) := MR_step (S := (wBf S (some (rowT S t)) (sC S (rowT S t)))) (r := rowT S t) (i := i) (z := (fun j => sC S (rowT S t) (if j < nn then j else j % nn))) hQ3
                have hW3 : MW y m0 B fr nc (va_up c2 (fr (rowT S t) + i) ((fun j => sC S (rowT S t) (if j < nn then j else j % nn)) i)) go b1 cn (wBf S (some (rowT S t)) (sC S (rowT S t))) M1 := hW3
                refine W.eq (g2 := F0 m 80 ls []) rfl ?_
                refine lv_iinc (v := nI (i + 1)) (lv' := [(4, .int (nI (i + 1))), (3, .int (nI (zT S t))), (2, .int n1), (1, .int t1), (0, .ref m0)]) hx hb dX4_spread_80 hl (k := 0) rfl (by first | exact nI_1 _ | exact nI_add _ _ | rfl) (by decide) rfl (fun ls hl => ?_)
                refine lv_goto (tgt := 58) hx hb dX4_spread_83 (by decide) ?_
                exact ih_lp (zT S t - (i + 1)) (by omega) (i + 1) _ _ ⟨by omega, by omega⟩ hW3 hQ3 _ _ ls rfl w (lv_sub hl [0, 1, 2, 3, 4] rfl)
          exact lp _ nn cl M1 ⟨Nat.le_refl _, by omega⟩ hW1 (MR_0 (S := (wBf S (some (rowT S t)) (sC S (rowT S t)))) (r := rowT S t) (z := (fun j => sC S (rowT S t) (if j < nn then j else j % nn))) (fun j hj => by show sC S _ (if j < nn then j else j % nn) = _; rw [if_pos hj]; rfl) hQ1) _ _ ls rfl w (lv_sub hl [0, 1, 4, 3, 2] rfl)
        · skip
          have n_45 : (inR n1 1 (nI (zT S t))) = false := bI_f c_45
          refine lv_aload_n hx hb dX4_spread_48 rfl (lv_at hl 1 rfl) ?_
          refine lv_bipush (v := (-4)) hx hb dX4_spread_49 (by decide) ?_
          refine m_callV C w hl.1 (As := [.int (-4)]) (rest := []) (r_told0 l D y S0 M1 F m0 B fr nc cl go b1 b1 cn (wBf S (some (rowT S t)) (sC S (rowT S t))) hW1 hQ1 c0 hI1 (-4) (fun _ => ⟨4, by decide, by decide⟩)) gX4_spread_X4_told0 rfl hW1.1 (T := TX4) (N := 16) rfl (show (_ = _ ∧ _ ≠ _ ∧ _ ≠ _ ∧ _ = some 1) by decide +kernel) ⟨Nat.le_of_ble_eq_true rfl, Nat.le_of_ble_eq_true rfl⟩ rfl (Nat.le_of_ble_eq_true rfl) dX4_spread_51 ⟨Nat.le_of_ble_eq_true rfl, Nat.le_of_ble_eq_true rfl⟩ (fun v M1 H locs hq w => ?_)
          obtain ⟨rfl, c9, hW9, hQ9⟩ := hq
          refine W.eq (g2 := F0 m 54 ls [.int (-4)]) rfl ?_
          exact m_iret C w dX4_spread_54 (by omega) (by omega) (⟨by rw [hm0]; unfold spr1; rw [if_neg (by omega), if_pos (show (!decide (n1 < 1) && !decide (nI (zT S t) < n1)) = false from n_45)], by rw [hm0]; unfold spr1; rw [if_neg (by omega), if_pos (show (!decide (n1 < 1) && !decide (nI (zT S t) < n1)) = false from n_45), kep_row h2]; exact ⟨B, fr, nc, cl, go, b1, c9, hW9, hQ9⟩⟩)
      · skip
        have n_20 : (decide (2 ≤ sH S t)) = false := bI_f c_20
        exact absurd h2 (of_decide_eq_false n_20)
    · skip
      rw [kep_no h2] at hW1 hQ1 hI1
      refine lv_aload_n hx hb dX4_spread_15 rfl (lv_at hl 0 rfl) ?_
      refine lv_iload_n hx hb dX4_spread_16 rfl (lv_at hl 1 rfl) ?_
      refine m_topi (y := nI t) et ?_
      refine m_callV C w hl.1 (As := [.int (nI t)]) (rest := []) (r_isRow l D y S0 M1 F m0 B fr nc cl go b1 b1 cn (wBf S none (sF S)) hW1 hQ1 c0 hI1 t ht) gX4_spread_X4_isRow rfl hW1.1 (T := TX4) (N := 16) rfl (show (_ = _ ∧ _ ≠ _ ∧ _ ≠ _ ∧ _ = some 1) by decide +kernel) ⟨Nat.le_of_ble_eq_true rfl, Nat.le_of_ble_eq_true rfl⟩ rfl (Nat.le_of_ble_eq_true rfl) dX4_spread_17 ⟨Nat.le_of_ble_eq_true rfl, Nat.le_of_ble_eq_true rfl⟩ (fun v M1 H locs hq w => ?_)
      obtain ⟨rfl, hM1⟩ := hq
      rw [hM1] at w
      clear hM1 M1
      refine W.eq (g2 := F0 m 20 ls [.int (bI (decide (2 ≤ sH S t)))]) rfl ?_
      refine lv_if_ne (tgt := 33) hx hb dX4_spread_20 (by decide) (fun c_20 => ?_) (fun c_20 => ?_)
      · skip
        have n_20 : (decide (2 ≤ sH S t)) = true := bI_t c_20
        exact absurd (of_decide_eq_true n_20) h2
      · skip
        have n_20 : (decide (2 ≤ sH S t)) = false := bI_f c_20
        refine lv_aload_n hx hb dX4_spread_23 rfl (lv_at hl 0 rfl) ?_
        refine lv_aload_n hx hb dX4_spread_24 rfl (lv_at hl 0 rfl) ?_
        refine lv_iload_n hx hb dX4_spread_25 rfl (lv_at hl 1 rfl) ?_
        refine m_topi (y := nI t) et ?_
        refine m_callV C w hl.1 (As := [.int (nI t)]) (rest := [.ref m0]) (r_lacks l D y S0 M1 F m0 B fr nc cl go b1 b1 cn (wBf S none (sF S)) hW1 hQ1 c0 hI1 t ht) gX4_spread_X4_lacks rfl hW1.1 (T := TX4) (N := 16) rfl (show (_ = _ ∧ _ ≠ _ ∧ _ ≠ _ ∧ _ = some 1) by decide +kernel) ⟨Nat.le_of_ble_eq_true rfl, Nat.le_of_ble_eq_true rfl⟩ rfl (Nat.le_of_ble_eq_true rfl) dX4_spread_26 ⟨Nat.le_of_ble_eq_true rfl, Nat.le_of_ble_eq_true rfl⟩ (fun v M1 H locs hq w => ?_)
        obtain ⟨rfl, hM1⟩ := hq
        rw [hM1] at w
        clear hM1 M1
        refine W.eq (g2 := F0 m 29 ls [.int (fR (sH S t)), .ref m0]) rfl ?_
        refine m_callV C w hl.1 (As := [.int (fR (sH S t))]) (rest := []) (r_told0 l D y S0 M1 F m0 B fr nc cl go b1 b1 cn (wBf S none (sF S)) hW1 hQ1 c0 hI1 (fR (sH S t)) fR_ok) gX4_spread_X4_told0 rfl hW1.1 (T := TX4) (N := 16) rfl (show (_ = _ ∧ _ ≠ _ ∧ _ ≠ _ ∧ _ = some 1) by decide +kernel) ⟨Nat.le_of_ble_eq_true rfl, Nat.le_of_ble_eq_true rfl⟩ rfl (Nat.le_of_ble_eq_true rfl) dX4_spread_29 ⟨Nat.le_of_ble_eq_true rfl, Nat.le_of_ble_eq_true rfl⟩ (fun v M1 H locs hq w => ?_)
        obtain ⟨rfl, c9, hW9, hQ9⟩ := hq
        refine W.eq (g2 := F0 m 32 ls [.int (fR (sH S t))]) rfl ?_
        exact m_iret C w dX4_spread_32 (by omega) (by omega) (⟨by rw [hm0]; unfold spr1; rw [if_pos (by omega)], by rw [hm0]; unfold spr1; rw [if_pos (by omega), kep_no h2]; exact ⟨B, fr, nc, cl, go, b1, c9, hW9, hQ9⟩⟩)
  · skip
    have n_4 : (inP t1 12) = false := bI_f c_4
    refine lv_bipush (v := (-6)) hx hb dX4_spread_7 (by decide) ?_
    exact m_iret C w dX4_spread_9 (by omega) (by omega) (⟨by rw [(show sp_spread S t1 n1 = (-6, S) by unfold sp_spread; rw [if_pos (by first | (simp [n_4]; done))])], by rw [(show sp_spread S t1 n1 = (-6, S) by unfold sp_spread; rw [if_pos (by first | (simp [n_4]; done))])]; exact ⟨B, fr, nc, cl, go, bf, cn, hW, hQ⟩⟩)
