theorem unl_ge {S : St} {a b : Nat} (h : 0 ≤ unl S a b) : unl S a b = 0 := by
  unfold unl at h ⊢
  by_cases q1 : sH S a = 0 ∨ sH S b = 0
  · rw [if_pos q1] at h; exact absurd h (by decide)
  · rw [if_neg q1] at h ⊢
    by_cases q2 : sH S a = 1 ∨ sH S b = 1
    · rw [if_pos q2] at h; exact absurd h (by decide)
    · rw [if_neg q2] at h ⊢
      by_cases q3 : (isN (sH S a) || isN (sH S b)) = true ∧ sH S a ≠ sH S b
      · rw [if_pos q3] at h; exact absurd h (by decide)
      · rw [if_neg q3]
theorem mvR_0 (S : St) (a p b q : Nat) : mvR S a p b q 0 = S := by
  have e : va_up (sC S) (rowT S b) (fun j => if q ≤ j ∧ j < q + 0 then sC S (rowT S a) (p + (j - q)) else sC S (rowT S b) j) = sC S := by
    funext r
    by_cases e : r = rowT S b
    · rw [e, va_ups]
      funext j
      rw [if_neg (by omega)]
    · rw [va_upo e]
  show wRC S _ = S
  rw [e]
  rfl
theorem mvR_s (S : St) (a p b q j k : Nat) : pRC (wFl (mvR S a p b q j) k) (rowT S b) (q + j) (sC S (rowT S a) (p + j)) = wFl (mvR S a p b q (j + 1)) k := by
  have e : va_up (va_up (sC S) (rowT S b) (fun i => if q ≤ i ∧ i < q + j then sC S (rowT S a) (p + (i - q)) else sC S (rowT S b) i)) (rowT S b) (va_up (va_up (sC S) (rowT S b) (fun i => if q ≤ i ∧ i < q + j then sC S (rowT S a) (p + (i - q)) else sC S (rowT S b) i) (rowT S b)) (q + j) (sC S (rowT S a) (p + j))) = va_up (sC S) (rowT S b) (fun i => if q ≤ i ∧ i < q + (j + 1) then sC S (rowT S a) (p + (i - q)) else sC S (rowT S b) i) := by
    funext r
    by_cases e : r = rowT S b
    · rw [e, va_ups, va_ups, va_ups]
      funext i
      by_cases e2 : i = q + j
      · rw [e2, va_ups, if_pos (by omega), show q + j - q = j by omega]
      · rw [va_upo e2]
        have hiff : (q ≤ i ∧ i < q + j) ↔ (q ≤ i ∧ i < q + (j + 1)) := by omega
        simp only [hiff]
    · rw [va_upo e, va_upo e, va_upo e]
  exact congrArg (fun c => wFl (wRC S c) k) e
theorem inv_mvR {c : Nat} {S : St} (h : Inv c S) {a b : Nat} (ha : a < 12) (hb : b < 12) (hu : unl S a b = 0) {pp qq j : Nat} (hpj : pp + j ≤ zT S a) (hg : ∀ x, x < j → gs S (sH S b) (sC S (rowT S a) (pp + x)) = true) : Inv c (mvR S a pp b qq j) := by
  obtain ⟨h2a, h2b, hcm⟩ := unlK_0 (show unlK (sH S a) (sH S b) = 0 from hu)
  have ra := rowT_eq h ha h2a
  have rb := rowT_eq h hb h2b
  have hzA : zT S a = sZ S (rowT S a) := by unfold zT; rw [if_pos h2a]
  refine inv_rc1 h (fun i hi => ?_)
  by_cases e : qq ≤ i ∧ i < qq + j
  · rw [if_pos e, rb.2]
    refine val_gs h ((h.2.2.2.1 _ ra.1).2.2.2 (pp + (i - qq)) (by omega)) (hg (i - qq) (by omega)) (by omega) ⟨h2b, (h.2.2.2.2.2.2.1 b hb).1⟩ (by rw [ra.2]; exact hcm)
  · rw [if_neg e]
    exact (h.2.2.2.1 _ rb.1).2.2.2 i hi
theorem val_go {c : Nat} {S : St} (hI : Inv c S) {ka kb : Nat} {x : Int64} (hv : val S ka x) (hb : 2 ≤ kb) (ha : 2 ≤ ka) (hu : ¬ ((isN ka || isN kb) = true ∧ ka ≠ kb)) : isN kb = true ∨ x = 0 ∨ kb = 13 ∨ x < 0 ∨ ∃ pz, 1 ≤ pz ∧ pz ≤ sP S ∧ x = lN pz := by
  have hbd := hI.2.2.1
  have hN := hI.1
  rcases hv with q | q | ⟨-, -, p, p1, p2, e⟩ | ⟨-, r, hr, -, e⟩
  · have hn : isN ka = true := by unfold isN; simp; omega
    left
    by_cases e : ka = kb
    · rw [← e]; exact hn
    · exact absurd ⟨by simp [hn], e⟩ hu
  · exact Or.inr (Or.inl q)
  · exact Or.inr (Or.inr (Or.inr (Or.inr ⟨p, p1, p2, e⟩)))
  · exact Or.inr (Or.inr (Or.inr (Or.inl (by rw [e]; exact neg_lt (by omega)))))
theorem zT_kep (S : St) (t x : Nat) : zT (kep S t) x = zT S x := by
  by_cases h : 2 ≤ sH S t
  · rw [kep_row h]; rfl
  · rw [kep_no h]; rfl
set_option maxRecDepth 100000 in
set_option maxHeartbeats 4000000 in
theorem r_moved (l : Launch) (D : va_G) (y : mY) (S0 : Nat) (M F : mp) (m0 : Nat) (B : Nat → Nat) (fr : Nat → Nat) (nc : Nat) (cl go bf bq : Nat → Int64) (cn : Nat → Int32) (S : St) (hW : MW y m0 B fr nc cl go bf cn S M) (hQ : MR fr nc cl bq cn S) (c0 : Nat) (hI : Inv c0 S) (a b : Nat) (ha : a < 12) (hb2 : b < 12) (p1 q1 n1 : Int32) : ct l yX4_moved wsX4_moved 3 66 0 0 D y S0 M F [.ref m0, .int (nI a), .int p1, .int (nI b), .int q1, .int n1] (fun v M' => v = some (.int (movd S a p1 b q1 n1).1) ∧ ∃ cl' go', MW y m0 B fr nc cl' go' bf cn (movd S a p1 b q1 n1).2 M' ∧ MR fr nc cl' bq cn (movd S a p1 b q1 n1).2) := by
  refine ct_of cX4_moved 8 (some .int) [(0, .ref m0), (1, .int (nI a)), (2, .int p1), (3, .int (nI b)), (4, .int q1), (5, .int n1)] (by decide +kernel) rfl (Nat.le_of_ble_eq_true rfl) rfl ?_
  intro p e s m below meth c ls C hnm hl w
  have hx := C.1
  have hb := C.2.1
  have hi_X4 : ∀ w ∈ u_ws RX4 TX4 16, w ∈ wsX4_moved := by decide +kernel
  have hka := (hI.2.2.2.2.2.2.1 a ha).1
  have hkb := (hI.2.2.2.2.2.2.1 b hb2).1
  have hza := zT_le hI ha
  have hzb := zT_le hI hb2
  have hI0 : Inv c0 (wFl S 0) := hI.fl (by omega)
  refine lv_aload_n hx hb dX4_moved_0 rfl (lv_at hl 0 rfl) ?_
  refine lv_iconst (v := 0) hx hb dX4_moved_1 (by decide) ?_
  refine m_put C w hW.1 (v := .int 0) (index := 102) (T := TX4) (N := 16) rfl hi_X4 tyX4 tyX4_ok nmX4 14 (by decide) (by decide +kernel) rfl (tyX4_ok 14 (by decide)) rfl rfl (Nat.le_of_ble_eq_true rfl) dX4_moved_2 (fun H locs w => ?_)
  obtain ⟨M1, e_M1⟩ : ∃ z, z = mu M m0 (eO 3 (mFl B nc (wFl S 0))) := ⟨_, rfl⟩
  have w : mS D S0 M1 F s H locs := by rw [e_M1]; exact w
  have hW1 : MW y m0 B fr nc cl go bf cn (wFl S 0) M1 := by rw [e_M1]; exact hW.fld (by intro k hk; rcases (show k = 0 ∨ k = 1 ∨ k = 2 ∨ k = 3 ∨ k = 4 ∨ k = 5 ∨ k = 6 ∨ k = 7 ∨ k = 8 ∨ k = 9 ∨ k = 10 by omega) with rfl | rfl | rfl | rfl | rfl | rfl | rfl | rfl | rfl | rfl | rfl <;> rfl)
  refine lv_aload_n hx hb dX4_moved_5 rfl (lv_at hl 0 rfl) ?_
  refine lv_iload_n hx hb dX4_moved_6 rfl (lv_at hl 1 rfl) ?_
  refine lv_iload_n hx hb dX4_moved_7 rfl (lv_at hl 3 rfl) ?_
  refine m_callV C w hl.1 (As := [.int (nI a), .int (nI b)]) (rest := []) (r_unlike l D y S0 M1 F m0 B fr nc cl go bf bq cn (wFl S 0) hW1 hQ c0 hI0 a b ha hb2) gX4_moved_X4_unlike rfl hW1.1 (T := TX4) (N := 16) rfl (show (_ = _ ∧ _ ≠ _ ∧ _ ≠ _ ∧ _ = some 2) by decide +kernel) ⟨Nat.le_of_ble_eq_true rfl, Nat.le_of_ble_eq_true rfl⟩ rfl (Nat.le_of_ble_eq_true rfl) dX4_moved_8 ⟨Nat.le_of_ble_eq_true rfl, Nat.le_of_ble_eq_true rfl⟩ (fun v M1 H locs hq w => ?_)
  obtain ⟨rfl, hM1⟩ := hq
  rw [hM1] at w
  clear hM1 M1
  refine W.eq (g2 := F0 m 11 ls [.int (unl S a b)]) rfl ?_
  refine lv_istore (lv' := [(6, .int (unl S a b)), (0, .ref m0), (1, .int (nI a)), (2, .int p1), (3, .int (nI b)), (4, .int q1), (5, .int n1)]) hx hb dX4_moved_11 hl (by decide) rfl (fun ls hl => ?_)
  refine lv_iload hx hb dX4_moved_13 (lv_at hl 0 rfl) ?_
  refine lv_if_ge (tgt := 21) hx hb dX4_moved_15 (by decide) (fun c_15 => ?_) (fun c_15 => ?_)
  · skip
    refine lv_iload_n hx hb dX4_moved_21 rfl (lv_at hl 3 rfl) ?_
    refine lv_if_lt (tgt := 68) hx hb dX4_moved_22 (by decide) (fun c_22 => ?_) (fun c_22 => ?_)
    · skip
      refine lv_bipush (v := (-4)) hx hb dX4_moved_68 (by decide) ?_
      exact m_iret C w dX4_moved_70 (by omega) (by omega) (⟨by rw [(show movd S a p1 b q1 n1 = (-4, wFl S 0) by unfold movd; rw [if_neg (fun h => h (unl_ge c_15)), if_pos (by unfold hpl; simp [c_22])])], cl, go, by rw [(show movd S a p1 b q1 n1 = (-4, wFl S 0) by unfold movd; rw [if_neg (fun h => h (unl_ge c_15)), if_pos (by unfold hpl; simp [c_22])])]; exact hW1, by rw [(show movd S a p1 b q1 n1 = (-4, wFl S 0) by unfold movd; rw [if_neg (fun h => h (unl_ge c_15)), if_pos (by unfold hpl; simp [c_22])])]; exact hQ⟩)
    · skip
      refine lv_iload hx hb dX4_moved_25 (lv_at hl 5 rfl) ?_
      refine lv_if_lt (tgt := 68) hx hb dX4_moved_27 (by decide) (fun c_27 => ?_) (fun c_27 => ?_)
      · skip
        refine lv_bipush (v := (-4)) hx hb dX4_moved_68 (by decide) ?_
        exact m_iret C w dX4_moved_70 (by omega) (by omega) (⟨by rw [(show movd S a p1 b q1 n1 = (-4, wFl S 0) by unfold movd; rw [if_neg (fun h => h (unl_ge c_15)), if_pos (by unfold hpl; simp [c_27])])], cl, go, by rw [(show movd S a p1 b q1 n1 = (-4, wFl S 0) by unfold movd; rw [if_neg (fun h => h (unl_ge c_15)), if_pos (by unfold hpl; simp [c_27])])]; exact hW1, by rw [(show movd S a p1 b q1 n1 = (-4, wFl S 0) by unfold movd; rw [if_neg (fun h => h (unl_ge c_15)), if_pos (by unfold hpl; simp [c_27])])]; exact hQ⟩)
      · skip
        refine lv_iload hx hb dX4_moved_30 (lv_at hl 6 rfl) ?_
        refine lv_if_lt (tgt := 68) hx hb dX4_moved_32 (by decide) (fun c_32 => ?_) (fun c_32 => ?_)
        · skip
          refine lv_bipush (v := (-4)) hx hb dX4_moved_68 (by decide) ?_
          exact m_iret C w dX4_moved_70 (by omega) (by omega) (⟨by rw [(show movd S a p1 b q1 n1 = (-4, wFl S 0) by unfold movd; rw [if_neg (fun h => h (unl_ge c_15)), if_pos (by unfold hpl; simp [c_32])])], cl, go, by rw [(show movd S a p1 b q1 n1 = (-4, wFl S 0) by unfold movd; rw [if_neg (fun h => h (unl_ge c_15)), if_pos (by unfold hpl; simp [c_32])])]; exact hW1, by rw [(show movd S a p1 b q1 n1 = (-4, wFl S 0) by unfold movd; rw [if_neg (fun h => h (unl_ge c_15)), if_pos (by unfold hpl; simp [c_32])])]; exact hQ⟩)
        · skip
          refine lv_iload_n hx hb dX4_moved_35 rfl (lv_at hl 3 rfl) ?_
          refine lv_i2l hx hb dX4_moved_36 rfl ?_
          refine lv_iload hx hb dX4_moved_37 (lv_at hl 6 rfl) ?_
          refine lv_i2l hx hb dX4_moved_39 rfl ?_
          refine lv_ladd hx hb dX4_moved_40 ?_
          refine lv_aload_n hx hb dX4_moved_41 rfl (lv_at hl 1 rfl) ?_
          refine lv_iload_n hx hb dX4_moved_42 rfl (lv_at hl 2 rfl) ?_
          refine m_callV C w hl.1 (As := [.int (nI a)]) (rest := [.long (p1.toInt64 + n1.toInt64)]) (r_sizeOf l D y S0 M1 F m0 B fr nc cl go bf bq cn (wFl S 0) hW1 hQ c0 hI0 a ha) gX4_moved_X4_sizeOf rfl hW1.1 (T := TX4) (N := 16) rfl (show (_ = _ ∧ _ ≠ _ ∧ _ ≠ _ ∧ _ = some 1) by decide +kernel) ⟨Nat.le_of_ble_eq_true rfl, Nat.le_of_ble_eq_true rfl⟩ rfl (Nat.le_of_ble_eq_true rfl) dX4_moved_43 ⟨Nat.le_of_ble_eq_true rfl, Nat.le_of_ble_eq_true rfl⟩ (fun v M1 H locs hq w => ?_)
          obtain ⟨rfl, hM1⟩ := hq
          rw [hM1] at w
          clear hM1 M1
          refine W.eq (g2 := F0 m 46 ls [.int (nI (zT S a)), .long (p1.toInt64 + n1.toInt64)]) rfl ?_
          refine lv_i2l (v := lN (zT S a)) hx hb dX4_moved_46 (nI_l (by omega)) ?_
          refine W.lcmp hx hb dX4_moved_47 ?_
          refine lv_if_gt (tgt := 68) hx hb dX4_moved_48 (by decide) (fun c_48 => ?_) (fun c_48 => ?_)
          · skip
            have n_48 := (lg_cmp_gt _ _).mp c_48
            refine lv_bipush (v := (-4)) hx hb dX4_moved_68 (by decide) ?_
            exact m_iret C w dX4_moved_70 (by omega) (by omega) (⟨by rw [(show movd S a p1 b q1 n1 = (-4, wFl S 0) by unfold movd; rw [if_neg (fun h => h (unl_ge c_15)), if_pos (by unfold hpl; simp [n_48])])], cl, go, by rw [(show movd S a p1 b q1 n1 = (-4, wFl S 0) by unfold movd; rw [if_neg (fun h => h (unl_ge c_15)), if_pos (by unfold hpl; simp [n_48])])]; exact hW1, by rw [(show movd S a p1 b q1 n1 = (-4, wFl S 0) by unfold movd; rw [if_neg (fun h => h (unl_ge c_15)), if_pos (by unfold hpl; simp [n_48])])]; exact hQ⟩)
          · skip
            have n_48 := (not_congr (lg_cmp_gt _ _)).mp c_48
            refine lv_iload hx hb dX4_moved_51 (lv_at hl 5 rfl) ?_
            refine lv_i2l hx hb dX4_moved_53 rfl ?_
            refine lv_iload hx hb dX4_moved_54 (lv_at hl 6 rfl) ?_
            refine lv_i2l hx hb dX4_moved_56 rfl ?_
            refine lv_ladd hx hb dX4_moved_57 ?_
            refine lv_aload_n hx hb dX4_moved_58 rfl (lv_at hl 1 rfl) ?_
            refine lv_iload_n hx hb dX4_moved_59 rfl (lv_at hl 4 rfl) ?_
            refine m_callV C w hl.1 (As := [.int (nI b)]) (rest := [.long (q1.toInt64 + n1.toInt64)]) (r_sizeOf l D y S0 M1 F m0 B fr nc cl go bf bq cn (wFl S 0) hW1 hQ c0 hI0 b hb2) gX4_moved_X4_sizeOf rfl hW1.1 (T := TX4) (N := 16) rfl (show (_ = _ ∧ _ ≠ _ ∧ _ ≠ _ ∧ _ = some 1) by decide +kernel) ⟨Nat.le_of_ble_eq_true rfl, Nat.le_of_ble_eq_true rfl⟩ rfl (Nat.le_of_ble_eq_true rfl) dX4_moved_60 ⟨Nat.le_of_ble_eq_true rfl, Nat.le_of_ble_eq_true rfl⟩ (fun v M1 H locs hq w => ?_)
            obtain ⟨rfl, hM1⟩ := hq
            rw [hM1] at w
            clear hM1 M1
            refine W.eq (g2 := F0 m 63 ls [.int (nI (zT S b)), .long (q1.toInt64 + n1.toInt64)]) rfl ?_
            refine lv_i2l (v := lN (zT S b)) hx hb dX4_moved_63 (nI_l (by omega)) ?_
            refine W.lcmp hx hb dX4_moved_64 ?_
            refine lv_if_le (tgt := 71) hx hb dX4_moved_65 (by decide) (fun c_65 => ?_) (fun c_65 => ?_)
            · skip
              have n_65 := (lg_cmp_le _ _).mp c_65
              have hu0 := unl_ge c_15
              obtain ⟨h2a, h2b, hcm⟩ := unlK_0 (show unlK (sH S a) (sH S b) = 0 from hu0)
              have n_27 : hpl p1 n1 (zT S a) = true := by unfold hpl; simp [c_22, c_32, n_48]
              have n_38 : hpl q1 n1 (zT S b) = true := by unfold hpl; have c9 := Int64.not_lt.mpr n_65; simp [c_27, c_32, c9]
              obtain ⟨pp, nn, hp, hn, hpn⟩ := hpl_t hza n_27
              obtain ⟨qq, nn2, hq9, hn2, hqn⟩ := hpl_t hzb n_38
              have e2 : nn = nn2 := (nI_eq (by omega) (by omega)).mp (hn.symm.trans hn2)
              subst e2
              obtain ⟨eoa, hra1, eka, hra5, hzA⟩ := rowI hI ha h2a
              obtain ⟨eob, hrb1, ekb, hrb5, hzB⟩ := rowI hI hb2 h2b
              have hm : movd S a p1 b q1 n1 = (if mvK S a pp b nn < nn then -5 else nI nn, wFl (mvR S a pp b qq (mvK S a pp b nn)) (mvK S a pp b nn)) := by
                unfold movd
                rw [if_neg (fun h => h hu0), if_neg (by rw [n_27, n_38]; decide), hp, hq9, hn, cN_nI (by omega), cN_nI (by omega), cN_nI (by omega)]
              have hvl : ∀ x, x < zT S a → val S (sK S (rowT S a)) (sC S (rowT S a) x) := fun x hx => (hI.2.2.2.1 (rowT S a) hra1).2.2.2 x (by omega)
              have hvg : ∀ x, x < zT S a → isN (sH S b) = true ∨ sC S (rowT S a) x = 0 ∨ sH S b = 13 ∨ sC S (rowT S a) x < 0 ∨ ∃ pz, 1 ≤ pz ∧ pz ≤ sP S ∧ sC S (rowT S a) x = lN pz := fun x hx => val_go hI (hvl x hx) h2b (by omega) (by rw [eka]; exact hcm)
              refine lv_iconst (v := 0) hx hb dX4_moved_71 (by decide) ?_
              refine lv_istore (lv' := [(7, .int 0), (6, .int (unl S a b)), (0, .ref m0), (1, .int (nI a)), (2, .int p1), (3, .int (nI b)), (4, .int q1), (5, .int n1)]) hx hb dX4_moved_72 hl (by decide) rfl (fun ls hl => ?_)
              have lp : ∀ (kf : Nat) (k : Nat) (g2 : Nat → Int64) (M2 : mp), (k ≤ nn) → (MW y m0 B fr nc cl g2 bf cn (wFl S 0) M2) → (∀ x, x < k → g2 x = sC S (rowT S a) (pp + x)) →  ∀ (H : Heap) (locs : List Loc) (ls : Array Slot), nn - k = kf → mS D S0 M2 F s H locs → lv_has ls 8 [(7, .int (nI k)), (1, .int (nI a)), (2, .int p1), (3, .int (nI b)), (4, .int q1), (5, .int n1), (0, .ref m0)] → W p l e { frames := 3, cells := 0, slots := 0, locals := 66 } s m ([.ref m0, .int (nI a), .int p1, .int (nI b), .int q1, .int n1] : List Value).toArray below meth c H locs 0 0 (MQ below (mQ D S0 F (fun v M' => v = some (.int (movd S a p1 b q1 n1).1) ∧ ∃ cl' go', MW y m0 B fr nc cl' go' bf cn (movd S a p1 b q1 n1).2 M' ∧ MR fr nc cl' bq cn (movd S a p1 b q1 n1).2)) ([.ref m0, .int (nI a), .int p1, .int (nI b), .int q1, .int n1] : List Value).toArray s 0 0 (fun q => S0 ≤ q)) (F0 m 74 ls []) := by
                clear w hl
                intro kf
                induction kf using Nat.strongRecOn with
                | _ kf ih_lp =>
                  intro k g2 M2 hk hW2 hd H locs ls hkf w hl
                  refine lv_iload hx hb dX4_moved_74 (lv_at hl 0 rfl) ?_
                  refine lv_iload hx hb dX4_moved_76 (lv_at hl 5 rfl) ?_
                  refine m_topi (y := nI nn) hn ?_
                  refine lv_icmp_ge (tgt := 103) hx hb dX4_moved_78 (by decide) (fun c_78 => ?_) (fun c_78 => ?_)
                  · skip
                    have n_78 : nn ≤ k := (nI_leI (by omega) (by omega)).mp c_78
                    have ek : k = nn := by omega
                    rw [ek] at hd
                    refine lv_iconst (v := 0) hx hb dX4_moved_103 (by decide) ?_
                    refine lv_istore (lv' := [(7, .int 0), (1, .int (nI a)), (2, .int p1), (3, .int (nI b)), (4, .int q1), (5, .int n1), (0, .ref m0)]) hx hb dX4_moved_104 hl (by decide) rfl (fun ls hl => ?_)
                    have lq : ∀ (kf : Nat) (j : Nat) (c2 : Nat → Int64) (M4 : mp), (j ≤ nn) → (MW y m0 B fr nc c2 g2 bf cn (wFl (mvR S a pp b qq j) j) M4) → (MR fr nc c2 bq cn (wFl (mvR S a pp b qq j) j)) → (∀ x, x < j → gs S (sH S b) (sC S (rowT S a) (pp + x)) = true) →  ∀ (H : Heap) (locs : List Loc) (ls : Array Slot), nn - j = kf → mS D S0 M4 F s H locs → lv_has ls 8 [(7, .int (nI j)), (1, .int (nI a)), (2, .int p1), (3, .int (nI b)), (4, .int q1), (5, .int n1), (0, .ref m0)] → W p l e { frames := 3, cells := 0, slots := 0, locals := 66 } s m ([.ref m0, .int (nI a), .int p1, .int (nI b), .int q1, .int n1] : List Value).toArray below meth c H locs 0 0 (MQ below (mQ D S0 F (fun v M' => v = some (.int (movd S a p1 b q1 n1).1) ∧ ∃ cl' go', MW y m0 B fr nc cl' go' bf cn (movd S a p1 b q1 n1).2 M' ∧ MR fr nc cl' bq cn (movd S a p1 b q1 n1).2)) ([.ref m0, .int (nI a), .int p1, .int (nI b), .int q1, .int n1] : List Value).toArray s 0 0 (fun q => S0 ≤ q)) (F0 m 106 ls []) := by
                      clear w hl
                      intro kf
                      induction kf using Nat.strongRecOn with
                      | _ kf ih_lq =>
                        intro j c2 M4 hj hW4 hQ4 hK H locs ls hkf w hl
                        have hI4 : Inv c0 (wFl (mvR S a pp b qq j) j) := (inv_mvR hI ha hb2 hu0 (qq := qq) (by omega) hK).fl (by omega)
                        refine lv_iload hx hb dX4_moved_106 (lv_at hl 0 rfl) ?_
                        refine lv_iload hx hb dX4_moved_108 (lv_at hl 5 rfl) ?_
                        refine m_topi (y := nI nn) hn ?_
                        refine lv_icmp_ge (tgt := 169) hx hb dX4_moved_110 (by decide) (fun c_110 => ?_) (fun c_110 => ?_)
                        · skip
                          have n_110 : nn ≤ j := (nI_leI (by omega) (by omega)).mp c_110
                          refine lv_iload hx hb dX4_moved_169 (lv_at hl 5 rfl) ?_
                          refine m_topi (y := nI nn) hn ?_
                          exact m_iret C w dX4_moved_171 (by omega) (by omega) (by
                            have hKe : mvK S a pp b nn = j := ld_eq (by omega) hK (Or.inl (by omega))
                            exact ⟨by rw [hm, hKe]; rw [if_neg (by omega)], c2, g2, by rw [hm, hKe]; exact hW4, by rw [hm, hKe]; exact hQ4⟩)
                        · skip
                          have n_110 : ¬ nn ≤ j := fun h => absurd ((nI_leI (by omega) (by omega)).mpr h) c_110
                          refine lv_aload_n hx hb dX4_moved_113 rfl (lv_at hl 6 rfl) ?_
                          refine lv_aload_n hx hb dX4_moved_114 rfl (lv_at hl 6 rfl) ?_
                          refine m_get C w hW4.1 (index := 7) (T := TX4) (N := 16) rfl hi_X4 0 (by decide) (by decide +kernel) rfl dX4_moved_115 ?_
                          refine lv_iload_n hx hb dX4_moved_118 rfl (lv_at hl 3 rfl) ?_
                          refine m_iald C w hW4.a0 b rfl (by omega) (by omega) dX4_moved_119 ?_
                          refine lv_aload_n hx hb dX4_moved_120 rfl (lv_at hl 6 rfl) ?_
                          refine m_get C w hW4.1 (index := 36) (T := TX4) (N := 16) rfl hi_X4 11 (by decide) (by decide +kernel) rfl dX4_moved_121 ?_
                          refine lv_iload hx hb dX4_moved_124 (lv_at hl 0 rfl) ?_
                          refine m_lald C w hW4.a8 j rfl (by omega) (by omega) dX4_moved_126 ?_
                          refine m_topl (y := (sC S (rowT S a) (pp + j))) (hd j (by omega)) ?_
                          refine m_callV C w hl.1 (As := [.int (nI (sH S b)), .long (sC S (rowT S a) (pp + j))]) (rest := []) (r_goes l D y S0 M4 F m0 B fr nc c2 g2 bf bq cn (wFl (mvR S a pp b qq j) j) hW4 hQ4 c0 hI4 (sH S b) (by omega) (sC S (rowT S a) (pp + j)) (hvg _ (by omega))) gX4_moved_X4_goes rfl hW4.1 (T := TX4) (N := 16) rfl (show (_ = _ ∧ _ ≠ _ ∧ _ ≠ _ ∧ _ = some 2) by decide +kernel) ⟨Nat.le_of_ble_eq_true rfl, Nat.le_of_ble_eq_true rfl⟩ rfl (Nat.le_of_ble_eq_true rfl) dX4_moved_127 ⟨Nat.le_of_ble_eq_true rfl, Nat.le_of_ble_eq_true rfl⟩ (fun v M1 H locs hq w => ?_)
                          obtain ⟨rfl, hM1⟩ := hq
                          rw [hM1] at w
                          clear hM1 M1
                          refine W.eq (g2 := F0 m 130 ls [.int (bI (gs S (sH S b) (sC S (rowT S a) (pp + j))))]) rfl ?_
                          refine lv_if_ne (tgt := 136) hx hb dX4_moved_130 (by decide) (fun c_130 => ?_) (fun c_130 => ?_)
                          · skip
                            have n_130 : (gs S (sH S b) (sC S (rowT S a) (pp + j))) = true := bI_t c_130
                            refine lv_aload_n hx hb dX4_moved_136 rfl (lv_at hl 6 rfl) ?_
                            refine lv_iload_n hx hb dX4_moved_137 rfl (lv_at hl 3 rfl) ?_
                            refine lv_iload hx hb dX4_moved_138 (lv_at hl 4 rfl) ?_
                            refine m_topi (y := nI qq) hq9 ?_
                            refine lv_iload hx hb dX4_moved_140 (lv_at hl 0 rfl) ?_
                            refine lv_iadd hx hb dX4_moved_142 ?_
                            refine m_topi (y := nI (qq + j)) (by first | exact nI_add _ _ | exact nI_1 _) ?_
                            refine lv_aload_n hx hb dX4_moved_143 rfl (lv_at hl 6 rfl) ?_
                            refine m_get C w hW4.1 (index := 36) (T := TX4) (N := 16) rfl hi_X4 11 (by decide) (by decide +kernel) rfl dX4_moved_144 ?_
                            refine lv_iload hx hb dX4_moved_147 (lv_at hl 0 rfl) ?_
                            refine m_lald C w hW4.a8 j rfl (by omega) (by omega) dX4_moved_149 ?_
                            refine m_topl (y := (sC S (rowT S a) (pp + j))) (hd j (by omega)) ?_
                            refine m_callV C w hl.1 (As := [.int (nI b), .int (nI (qq + j)), .long (sC S (rowT S a) (pp + j))]) (rest := []) (r_set l D y S0 M4 F m0 B fr nc c2 g2 bf bq cn (wFl (mvR S a pp b qq j) j) hW4 hQ4 c0 hI4 b hb2 h2b (qq + j) (show qq + j < zT S b by omega) (sC S (rowT S a) (pp + j))) gX4_moved_X4_set rfl hW4.1 (T := TX4) (N := 16) rfl (show (_ = _ ∧ _ ≠ _ ∧ _ ≠ _ ∧ _ = some 3) by decide +kernel) ⟨Nat.le_of_ble_eq_true rfl, Nat.le_of_ble_eq_true rfl⟩ rfl (Nat.le_of_ble_eq_true rfl) dX4_moved_150 ⟨Nat.le_of_ble_eq_true rfl, Nat.le_of_ble_eq_true rfl⟩ (fun v M1 H locs hq w => ?_)
                            obtain ⟨rfl, hW5, hQ5⟩ := hq
                            obtain ⟨M5, e_M5⟩ : ∃ z, z = M1 := ⟨_, rfl⟩
                            rw [← e_M5] at w hW5
                            clear e_M5 M1
                            obtain ⟨c5, e_c5⟩ : ∃ z, z = va_up c2 (fr (rowT S b) + (qq + j)) (sC S (rowT S a) (pp + j)) := ⟨_, rfl⟩
                            have hW5 : MW y m0 B fr nc c5 g2 bf cn (wFl (mvR S a pp b qq (j + 1)) j) M5 := by rw [e_c5, ← mvR_s]; exact hW5
                            have hQ6 : MR fr nc c5 bq cn (wFl (mvR S a pp b qq (j + 1)) (j + 1)) := by
                              have h9 : MR fr nc c5 bq cn (wFl (mvR S a pp b qq (j + 1)) j) := by rw [e_c5, ← mvR_s]; exact hQ5
                              exact h9
                            refine W.eq (g2 := F0 m 153 ls []) rfl ?_
                            refine lv_aload_n hx hb dX4_moved_153 rfl (lv_at hl 6 rfl) ?_
                            refine lv_dup hx hb dX4_moved_154 rfl ?_
                            refine m_get C w hW5.1 (index := 102) (T := TX4) (N := 16) rfl hi_X4 14 (by decide) (by decide +kernel) rfl dX4_moved_155 ?_
                            refine lv_iconst (v := 1) hx hb dX4_moved_158 (by decide) ?_
                            refine lv_iadd hx hb dX4_moved_159 ?_
                            refine m_topi (y := nI (j + 1)) (by first | exact nI_add _ _ | exact nI_1 _) ?_
                            refine m_put C w hW5.1 (v := .int (nI (j + 1))) (index := 102) (T := TX4) (N := 16) rfl hi_X4 tyX4 tyX4_ok nmX4 14 (by decide) (by decide +kernel) rfl (tyX4_ok 14 (by decide)) rfl rfl (Nat.le_of_ble_eq_true rfl) dX4_moved_160 (fun H locs w => ?_)
                            obtain ⟨M6, e_M6⟩ : ∃ z, z = mu M5 m0 (eO 3 (mFl B nc (wFl (mvR S a pp b qq (j + 1)) (j + 1)))) := ⟨_, rfl⟩
                            have w : mS D S0 M6 F s H locs := by rw [e_M6]; exact w
                            have hW6 : MW y m0 B fr nc c5 g2 bf cn (wFl (mvR S a pp b qq (j + 1)) (j + 1)) M6 := by rw [e_M6]; exact hW5.fld (by intro k hk; rcases (show k = 0 ∨ k = 1 ∨ k = 2 ∨ k = 3 ∨ k = 4 ∨ k = 5 ∨ k = 6 ∨ k = 7 ∨ k = 8 ∨ k = 9 ∨ k = 10 by omega) with rfl | rfl | rfl | rfl | rfl | rfl | rfl | rfl | rfl | rfl | rfl <;> rfl)
                            refine lv_iinc (v := nI (j + 1)) (lv' := [(7, .int (nI (j + 1))), (1, .int (nI a)), (2, .int p1), (3, .int (nI b)), (4, .int q1), (5, .int n1), (0, .ref m0)]) hx hb dX4_moved_163 hl (k := 0) rfl (by first | exact nI_1 _ | exact nI_add _ _ | rfl) (by decide) rfl (fun ls hl => ?_)
                            refine lv_goto (tgt := 106) hx hb dX4_moved_166 (by decide) ?_
                            exact ih_lq (nn - (j + 1)) (by omega) (j + 1) _ _ (by omega) hW6 hQ6 (fun x hx => by
                                by_cases e : x = j
                                · rw [e]; exact n_130
                                · exact hK x (by omega)) _ _ ls rfl w (lv_sub hl [0, 1, 2, 3, 4, 5, 6] rfl)
                          · skip
                            have n_130 : (gs S (sH S b) (sC S (rowT S a) (pp + j))) = false := bI_f c_130
                            refine lv_bipush (v := (-5)) hx hb dX4_moved_133 (by decide) ?_
                            exact m_iret C w dX4_moved_135 (by omega) (by omega) (by
                              have hKe : mvK S a pp b nn = j := ld_eq (by omega) hK (Or.inr n_130)
                              exact ⟨by rw [hm, hKe]; rw [if_pos (by omega)], c2, g2, by rw [hm, hKe]; exact hW4, by rw [hm, hKe]; exact hQ4⟩)
                    exact lq _ 0 cl M2 (by omega) hW2 (by rw [mvR_0]; exact hQ) (fun x hx => by omega) _ _ ls rfl w (lv_sub hl [0, 1, 2, 3, 4, 5, 6] rfl)
                  · skip
                    have n_78 : ¬ nn ≤ k := fun h => absurd ((nI_leI (by omega) (by omega)).mpr h) c_78
                    refine lv_aload_n hx hb dX4_moved_81 rfl (lv_at hl 6 rfl) ?_
                    refine m_get C w hW2.1 (index := 36) (T := TX4) (N := 16) rfl hi_X4 11 (by decide) (by decide +kernel) rfl dX4_moved_82 ?_
                    refine lv_iload hx hb dX4_moved_85 (lv_at hl 0 rfl) ?_
                    refine lv_aload_n hx hb dX4_moved_87 rfl (lv_at hl 6 rfl) ?_
                    refine lv_iload_n hx hb dX4_moved_88 rfl (lv_at hl 1 rfl) ?_
                    refine lv_iload_n hx hb dX4_moved_89 rfl (lv_at hl 2 rfl) ?_
                    refine m_topi (y := nI pp) hp ?_
                    refine lv_iload hx hb dX4_moved_90 (lv_at hl 0 rfl) ?_
                    refine lv_iadd hx hb dX4_moved_92 ?_
                    refine m_topi (y := nI (pp + k)) (by first | exact nI_add _ _ | exact nI_1 _) ?_
                    refine m_callV C w hl.1 (As := [.int (nI a), .int (nI (pp + k))]) (rest := [.int (nI k), .ref (B 8)]) (r_get l D y S0 M2 F m0 B fr nc cl g2 bf bq cn (wFl S 0) hW2 hQ c0 hI0 a ha h2a (pp + k) (show pp + k < zT S a by omega)) gX4_moved_X4_get rfl hW2.1 (T := TX4) (N := 16) rfl (show (_ = _ ∧ _ ≠ _ ∧ _ ≠ _ ∧ _ = some 2) by decide +kernel) ⟨Nat.le_of_ble_eq_true rfl, Nat.le_of_ble_eq_true rfl⟩ rfl (Nat.le_of_ble_eq_true rfl) dX4_moved_93 ⟨Nat.le_of_ble_eq_true rfl, Nat.le_of_ble_eq_true rfl⟩ (fun v M1 H locs hq w => ?_)
                    obtain ⟨rfl, hM1⟩ := hq
                    rw [hM1] at w
                    clear hM1 M1
                    refine W.eq (g2 := F0 m 96 ls [.long (sC S (rowT S a) (pp + k)), .int (nI k), .ref (B 8)]) rfl ?_
                    refine m_last C w hW2.a8 k rfl (by omega) (by omega) dX4_moved_96 (fun H locs w => ?_)
                    have hW3 := hW2.set (nc' := nc) (fr' := fr) (cl' := cl) (go' := va_up g2 k (sC S (rowT S a) (pp + k))) (bf' := bf) (cn' := cn) (S' := wFl S 0) 8 (by decide) rfl (by intro k hk hne; rcases (show k = 0 ∨ k = 1 ∨ k = 2 ∨ k = 3 ∨ k = 4 ∨ k = 5 ∨ k = 6 ∨ k = 7 ∨ k = 8 ∨ k = 9 ∨ k = 10 by omega) with rfl | rfl | rfl | rfl | rfl | rfl | rfl | rfl | rfl | rfl | rfl <;> first | rfl | exact absurd rfl hne) rfl
                    refine lv_iinc (v := nI (k + 1)) (lv' := [(7, .int (nI (k + 1))), (1, .int (nI a)), (2, .int p1), (3, .int (nI b)), (4, .int q1), (5, .int n1), (0, .ref m0)]) hx hb dX4_moved_97 hl (k := 0) rfl (by first | exact nI_1 _ | exact nI_add _ _ | rfl) (by decide) rfl (fun ls hl => ?_)
                    refine lv_goto (tgt := 74) hx hb dX4_moved_100 (by decide) ?_
                    exact ih_lp (nn - (k + 1)) (by omega) (k + 1) _ _ (by omega) hW3 (fun x hx => by
                        by_cases e : x = k
                        · rw [e, va_ups]
                        · rw [va_upo e]; exact hd x (by omega)) _ _ ls rfl w (lv_sub hl [0, 1, 2, 3, 4, 5, 6] rfl)
              exact lp _ 0 go M1 (by omega) hW1 (fun x hx => by omega) _ _ ls rfl w (lv_sub hl [0, 3, 4, 5, 6, 7, 2] rfl)
            · skip
              have n_65 := (not_congr (lg_cmp_le _ _)).mp c_65
              refine lv_bipush (v := (-4)) hx hb dX4_moved_68 (by decide) ?_
              exact m_iret C w dX4_moved_70 (by omega) (by omega) (⟨by rw [(show movd S a p1 b q1 n1 = (-4, wFl S 0) by unfold movd; rw [if_neg (fun h => h (unl_ge c_15)), if_pos (by unfold hpl; (have c9 := Int64.not_le.mp n_65; simp [c9]))])], cl, go, by rw [(show movd S a p1 b q1 n1 = (-4, wFl S 0) by unfold movd; rw [if_neg (fun h => h (unl_ge c_15)), if_pos (by unfold hpl; (have c9 := Int64.not_le.mp n_65; simp [c9]))])]; exact hW1, by rw [(show movd S a p1 b q1 n1 = (-4, wFl S 0) by unfold movd; rw [if_neg (fun h => h (unl_ge c_15)), if_pos (by unfold hpl; (have c9 := Int64.not_le.mp n_65; simp [c9]))])]; exact hQ⟩)
  · skip
    refine lv_iload hx hb dX4_moved_18 (lv_at hl 0 rfl) ?_
    exact m_iret C w dX4_moved_20 (by omega) (by omega) (⟨by rw [(show movd S a p1 b q1 n1 = (unl S a b, wFl S 0) by unfold movd; rw [if_pos (fun h => c_15 (by rw [h]; decide))])], cl, go, by rw [(show movd S a p1 b q1 n1 = (unl S a b, wFl S 0) by unfold movd; rw [if_pos (fun h => c_15 (by rw [h]; decide))])]; exact hW1, by rw [(show movd S a p1 b q1 n1 = (unl S a b, wFl S 0) by unfold movd; rw [if_pos (fun h => c_15 (by rw [h]; decide))])]; exact hQ⟩)
set_option maxRecDepth 100000 in
set_option maxHeartbeats 4000000 in
theorem r_move (l : Launch) (D : va_G) (y : mY) (S0 : Nat) (M F : mp) (m0 : Nat) (B : Nat → Nat) (fr : Nat → Nat) (nc : Nat) (cl go bf : Nat → Int64) (cn : Nat → Int32) (S : St) (hW : MW y m0 B fr nc cl go bf cn S M) (hQ : MR fr nc cl bf cn S) (c0 : Nat) (hI : Inv c0 S) (a1 p1 b1 q1 n1 : Int32) : ct l yX4_move wsX4_move 4 93 0 0 D y S0 M F [.ref m0, .int a1, .int p1, .int b1, .int q1, .int n1] (fun v M' => v = some (.int (sp_move S a1 p1 b1 q1 n1).1) ∧ RM y m0 (sp_move S a1 p1 b1 q1 n1).2 M') := by
  refine ct_of cX4_move 6 (some .int) [(0, .ref m0), (1, .int a1), (2, .int p1), (3, .int b1), (4, .int q1), (5, .int n1)] (by decide +kernel) rfl (Nat.le_of_ble_eq_true rfl) rfl ?_
  intro p e s m below meth c ls C hnm hl w
  have hx := C.1
  have hb := C.2.1
  have hi_X4 : ∀ w ∈ u_ws RX4 TX4 16, w ∈ wsX4_move := by decide +kernel
  refine lv_iload_n hx hb dX4_move_0 rfl (lv_at hl 1 rfl) ?_
  refine m_callS C w hl.1 (As := [.int a1]) (rest := []) (r_isTray l D y S0 M F a1) ggX4_move_X4_isTray rfl (by decide +kernel) (by decide +kernel) (by decide +kernel) (show (_ ≠ _ ∧ _ ≠ _ ∧ _ = some 1) by decide +kernel) ⟨Nat.le_of_ble_eq_true rfl, Nat.le_of_ble_eq_true rfl⟩ rfl (Nat.le_of_ble_eq_true rfl) dX4_move_1 ⟨Nat.le_of_ble_eq_true rfl, Nat.le_of_ble_eq_true rfl⟩ (fun v M1 H locs hq w => ?_)
  obtain ⟨rfl, hM1⟩ := hq
  rw [hM1] at w
  clear hM1 M1
  refine W.eq (g2 := F0 m 4 ls [.int (bI (inP a1 12))]) rfl ?_
  refine lv_if_eq (tgt := 14) hx hb dX4_move_4 (by decide) (fun c_4 => ?_) (fun c_4 => ?_)
  · skip
    have n_4 : (inP a1 12) = false := bI_f c_4
    refine lv_bipush (v := (-6)) hx hb dX4_move_14 (by decide) ?_
    exact m_iret C w dX4_move_16 (by omega) (by omega) (⟨by rw [(show sp_move S a1 p1 b1 q1 n1 = (-6, S) by unfold sp_move; rw [if_pos (by first | (simp [n_4, n_11]; done) | (simp [n_4]; done))])], by rw [(show sp_move S a1 p1 b1 q1 n1 = (-6, S) by unfold sp_move; rw [if_pos (by first | (simp [n_4, n_11]; done) | (simp [n_4]; done))])]; exact ⟨B, fr, nc, cl, go, bf, cn, hW, hQ⟩⟩)
  · skip
    have n_4 : (inP a1 12) = true := bI_t c_4
    refine lv_iload_n hx hb dX4_move_7 rfl (lv_at hl 3 rfl) ?_
    refine m_callS C w hl.1 (As := [.int b1]) (rest := []) (r_isTray l D y S0 M F b1) ggX4_move_X4_isTray rfl (by decide +kernel) (by decide +kernel) (by decide +kernel) (show (_ ≠ _ ∧ _ ≠ _ ∧ _ = some 1) by decide +kernel) ⟨Nat.le_of_ble_eq_true rfl, Nat.le_of_ble_eq_true rfl⟩ rfl (Nat.le_of_ble_eq_true rfl) dX4_move_8 ⟨Nat.le_of_ble_eq_true rfl, Nat.le_of_ble_eq_true rfl⟩ (fun v M1 H locs hq w => ?_)
    obtain ⟨rfl, hM1⟩ := hq
    rw [hM1] at w
    clear hM1 M1
    refine W.eq (g2 := F0 m 11 ls [.int (bI (inP b1 12))]) rfl ?_
    refine lv_if_ne (tgt := 17) hx hb dX4_move_11 (by decide) (fun c_11 => ?_) (fun c_11 => ?_)
    · skip
      have n_11 : (inP b1 12) = true := bI_t c_11
      obtain ⟨ta, hta, ea⟩ := inP_t (by decide) n_4
      obtain ⟨tb, htb, eb⟩ := inP_t (by decide) n_11
      have hm : sp_move S a1 p1 b1 q1 n1 = ((movd (kep S tb) ta p1 tb q1 n1).1, tell (movd (kep S tb) ta p1 tb q1 n1).2 (movd (kep S tb) ta p1 tb q1 n1).1) := by unfold sp_move; rw [if_neg (by simp [n_4, n_11]), ea, eb, cN_nI (by omega), cN_nI (by omega)]
      refine lv_aload_n hx hb dX4_move_17 rfl (lv_at hl 0 rfl) ?_
      refine lv_iload_n hx hb dX4_move_18 rfl (lv_at hl 3 rfl) ?_
      refine m_topi (y := nI tb) eb ?_
      refine m_callV C w hl.1 (As := [.int (nI tb)]) (rest := []) (r_keep l D y S0 M F m0 B fr nc cl go bf bf cn S hW hQ c0 hI tb htb) gX4_move_X4_keep rfl hW.1 (T := TX4) (N := 16) rfl (show (_ = _ ∧ _ ≠ _ ∧ _ ≠ _ ∧ _ = some 1) by decide +kernel) ⟨Nat.le_of_ble_eq_true rfl, Nat.le_of_ble_eq_true rfl⟩ rfl (Nat.le_of_ble_eq_true rfl) dX4_move_19 ⟨Nat.le_of_ble_eq_true rfl, Nat.le_of_ble_eq_true rfl⟩ (fun v M1 H locs hq w => ?_)
      obtain ⟨rfl, b1, hW1, hQ1⟩ := hq
      have hI1 := inv_kep hI htb
      refine W.eq (g2 := F0 m 22 ls []) rfl ?_
      refine lv_aload_n hx hb dX4_move_22 rfl (lv_at hl 0 rfl) ?_
      refine lv_aload_n hx hb dX4_move_23 rfl (lv_at hl 0 rfl) ?_
      refine lv_iload_n hx hb dX4_move_24 rfl (lv_at hl 1 rfl) ?_
      refine m_topi (y := nI ta) ea ?_
      refine lv_iload_n hx hb dX4_move_25 rfl (lv_at hl 2 rfl) ?_
      refine lv_iload_n hx hb dX4_move_26 rfl (lv_at hl 3 rfl) ?_
      refine m_topi (y := nI tb) eb ?_
      refine lv_iload hx hb dX4_move_27 (lv_at hl 4 rfl) ?_
      refine lv_iload hx hb dX4_move_29 (lv_at hl 5 rfl) ?_
      refine m_callV C w hl.1 (As := [.int (nI ta), .int p1, .int (nI tb), .int q1, .int n1]) (rest := [.ref m0]) (r_moved l D y S0 M1 F m0 B fr nc cl go b1 b1 cn (kep S tb) hW1 hQ1 c0 hI1 ta tb hta htb p1 q1 n1) gX4_move_X4_moved rfl hW1.1 (T := TX4) (N := 16) rfl (show (_ = _ ∧ _ ≠ _ ∧ _ ≠ _ ∧ _ = some 5) by decide +kernel) ⟨Nat.le_of_ble_eq_true rfl, Nat.le_of_ble_eq_true rfl⟩ rfl (Nat.le_of_ble_eq_true rfl) dX4_move_31 ⟨Nat.le_of_ble_eq_true rfl, Nat.le_of_ble_eq_true rfl⟩ (fun v M1 H locs hq w => ?_)
      obtain ⟨rfl, c2, g2, hW2, hQ2⟩ := hq
      refine W.eq (g2 := F0 m 34 ls [.int ((movd (kep S tb) ta p1 tb q1 n1).1), .ref m0]) rfl ?_
      refine m_callV C w hl.1 (As := [.int ((movd (kep S tb) ta p1 tb q1 n1).1)]) (rest := []) (r_told0 l D y S0 M1 F m0 B fr nc c2 g2 b1 b1 cn (movd (kep S tb) ta p1 tb q1 n1).2 hW2 hQ2 c0 (inv_movd hI1 hta htb _ _ _) (movd (kep S tb) ta p1 tb q1 n1).1 (movd_ok hI1 hta htb)) gX4_move_X4_told0 rfl hW2.1 (T := TX4) (N := 16) rfl (show (_ = _ ∧ _ ≠ _ ∧ _ ≠ _ ∧ _ = some 1) by decide +kernel) ⟨Nat.le_of_ble_eq_true rfl, Nat.le_of_ble_eq_true rfl⟩ rfl (Nat.le_of_ble_eq_true rfl) dX4_move_34 ⟨Nat.le_of_ble_eq_true rfl, Nat.le_of_ble_eq_true rfl⟩ (fun v M1 H locs hq w => ?_)
      obtain ⟨rfl, c9, hW9, hQ9⟩ := hq
      refine W.eq (g2 := F0 m 37 ls [.int ((movd (kep S tb) ta p1 tb q1 n1).1)]) rfl ?_
      exact m_iret C w dX4_move_37 (by omega) (by omega) (⟨by rw [hm], by rw [hm]; exact ⟨B, fr, nc, c2, g2, b1, c9, hW9, hQ9⟩⟩)
    · skip
      have n_11 : (inP b1 12) = false := bI_f c_11
      refine lv_bipush (v := (-6)) hx hb dX4_move_14 (by decide) ?_
      exact m_iret C w dX4_move_16 (by omega) (by omega) (⟨by rw [(show sp_move S a1 p1 b1 q1 n1 = (-6, S) by unfold sp_move; rw [if_pos (by first | (simp [n_4, n_11]; done) | (simp [n_4]; done))])], by rw [(show sp_move S a1 p1 b1 q1 n1 = (-6, S) by unfold sp_move; rw [if_pos (by first | (simp [n_4, n_11]; done) | (simp [n_4]; done))])]; exact ⟨B, fr, nc, cl, go, bf, cn, hW, hQ⟩⟩)
set_option maxRecDepth 100000 in
set_option maxHeartbeats 4000000 in
theorem r_open (l : Launch) (D : va_G) (y : mY) (S0 : Nat) (M F : mp) (m0 : Nat) (B : Nat → Nat) (fr : Nat → Nat) (nc : Nat) (cl go bf : Nat → Int64) (cn : Nat → Int32) (S : St) (hW : MW y m0 B fr nc cl go bf cn S M) (hQ : MR fr nc cl bf cn S) (c0 : Nat) (hI : Inv c0 S) (t1 i1 n1 : Int32) : ct l yX4_open wsX4_open 4 93 0 0 D y S0 M F [.ref m0, .int t1, .int i1, .int n1] (fun v M' => v = some (.int (sp_open S t1 i1 n1).1) ∧ RM y m0 (sp_open S t1 i1 n1).2 M') := by
  refine ct_of cX4_open 4 (some .int) [(0, .ref m0), (1, .int t1), (2, .int i1), (3, .int n1)] (by decide +kernel) rfl (Nat.le_of_ble_eq_true rfl) rfl ?_
  intro p e s m below meth c ls C hnm hl w
  have hx := C.1
  have hb := C.2.1
  have hi_X4 : ∀ w ∈ u_ws RX4 TX4 16, w ∈ wsX4_open := by decide +kernel
  refine lv_iload_n hx hb dX4_open_0 rfl (lv_at hl 1 rfl) ?_
  refine m_callS C w hl.1 (As := [.int t1]) (rest := []) (r_isTray l D y S0 M F t1) ggX4_open_X4_isTray rfl (by decide +kernel) (by decide +kernel) (by decide +kernel) (show (_ ≠ _ ∧ _ ≠ _ ∧ _ = some 1) by decide +kernel) ⟨Nat.le_of_ble_eq_true rfl, Nat.le_of_ble_eq_true rfl⟩ rfl (Nat.le_of_ble_eq_true rfl) dX4_open_1 ⟨Nat.le_of_ble_eq_true rfl, Nat.le_of_ble_eq_true rfl⟩ (fun v M1 H locs hq w => ?_)
  obtain ⟨rfl, hM1⟩ := hq
  rw [hM1] at w
  clear hM1 M1
  refine W.eq (g2 := F0 m 4 ls [.int (bI (inP t1 12))]) rfl ?_
  refine lv_if_ne (tgt := 10) hx hb dX4_open_4 (by decide) (fun c_4 => ?_) (fun c_4 => ?_)
  · skip
    have n_4 : (inP t1 12) = true := bI_t c_4
    obtain ⟨t, ht, et⟩ := inP_t (by decide) n_4
    have hm : sp_open S t1 i1 n1 = ((movd (kep S t) t i1 t (i1 + n1) (nI (zT S t) - i1 - n1)).1, tell (movd (kep S t) t i1 t (i1 + n1) (nI (zT S t) - i1 - n1)).2 (movd (kep S t) t i1 t (i1 + n1) (nI (zT S t) - i1 - n1)).1) := by
      unfold sp_open
      rw [if_neg (by simp [n_4]), et, cN_nI (by omega)]
      unfold sp_move
      rw [if_neg (by rw [inP_nI ht (by decide)]; decide), cN_nI (by omega)]
    refine lv_aload_n hx hb dX4_open_10 rfl (lv_at hl 0 rfl) ?_
    refine lv_iload_n hx hb dX4_open_11 rfl (lv_at hl 1 rfl) ?_
    refine m_topi (y := nI t) et ?_
    refine m_callV C w hl.1 (As := [.int (nI t)]) (rest := []) (r_keep l D y S0 M F m0 B fr nc cl go bf bf cn S hW hQ c0 hI t ht) gX4_open_X4_keep rfl hW.1 (T := TX4) (N := 16) rfl (show (_ = _ ∧ _ ≠ _ ∧ _ ≠ _ ∧ _ = some 1) by decide +kernel) ⟨Nat.le_of_ble_eq_true rfl, Nat.le_of_ble_eq_true rfl⟩ rfl (Nat.le_of_ble_eq_true rfl) dX4_open_12 ⟨Nat.le_of_ble_eq_true rfl, Nat.le_of_ble_eq_true rfl⟩ (fun v M1 H locs hq w => ?_)
    obtain ⟨rfl, b1, hW1, hQ1⟩ := hq
    have hI1 := inv_kep hI ht
    refine W.eq (g2 := F0 m 15 ls []) rfl ?_
    refine lv_aload_n hx hb dX4_open_15 rfl (lv_at hl 0 rfl) ?_
    refine lv_aload_n hx hb dX4_open_16 rfl (lv_at hl 0 rfl) ?_
    refine lv_iload_n hx hb dX4_open_17 rfl (lv_at hl 1 rfl) ?_
    refine m_topi (y := nI t) et ?_
    refine lv_iload_n hx hb dX4_open_18 rfl (lv_at hl 2 rfl) ?_
    refine lv_iload_n hx hb dX4_open_19 rfl (lv_at hl 1 rfl) ?_
    refine m_topi (y := nI t) et ?_
    refine lv_iload_n hx hb dX4_open_20 rfl (lv_at hl 2 rfl) ?_
    refine lv_iload_n hx hb dX4_open_21 rfl (lv_at hl 3 rfl) ?_
    refine lv_iadd hx hb dX4_open_22 ?_
    refine lv_aload_n hx hb dX4_open_23 rfl (lv_at hl 0 rfl) ?_
    refine lv_iload_n hx hb dX4_open_24 rfl (lv_at hl 1 rfl) ?_
    refine m_topi (y := nI t) et ?_
    refine m_callV C w hl.1 (As := [.int (nI t)]) (rest := [.int (i1 + n1), .int (nI t), .int i1, .int (nI t), .ref m0, .ref m0]) (r_sizeOf l D y S0 M1 F m0 B fr nc cl go b1 b1 cn (kep S t) hW1 hQ1 c0 hI1 t ht) gX4_open_X4_sizeOf rfl hW1.1 (T := TX4) (N := 16) rfl (show (_ = _ ∧ _ ≠ _ ∧ _ ≠ _ ∧ _ = some 1) by decide +kernel) ⟨Nat.le_of_ble_eq_true rfl, Nat.le_of_ble_eq_true rfl⟩ rfl (Nat.le_of_ble_eq_true rfl) dX4_open_25 ⟨Nat.le_of_ble_eq_true rfl, Nat.le_of_ble_eq_true rfl⟩ (fun v M1 H locs hq w => ?_)
    rw [zT_kep] at hq
    obtain ⟨rfl, hM1⟩ := hq
    rw [hM1] at w
    clear hM1 M1
    refine W.eq (g2 := F0 m 28 ls [.int (nI (zT S t)), .int (i1 + n1), .int (nI t), .int i1, .int (nI t), .ref m0, .ref m0]) rfl ?_
    refine lv_iload_n hx hb dX4_open_28 rfl (lv_at hl 2 rfl) ?_
    refine lv_isub hx hb dX4_open_29 ?_
    refine lv_iload_n hx hb dX4_open_30 rfl (lv_at hl 3 rfl) ?_
    refine lv_isub hx hb dX4_open_31 ?_
    refine m_callV C w hl.1 (As := [.int (nI t), .int i1, .int (nI t), .int (i1 + n1), .int (((nI (zT S t)) - i1) - n1)]) (rest := [.ref m0]) (r_moved l D y S0 M1 F m0 B fr nc cl go b1 b1 cn (kep S t) hW1 hQ1 c0 hI1 t t ht ht i1 (i1 + n1) (nI (zT S t) - i1 - n1)) gX4_open_X4_moved rfl hW1.1 (T := TX4) (N := 16) rfl (show (_ = _ ∧ _ ≠ _ ∧ _ ≠ _ ∧ _ = some 5) by decide +kernel) ⟨Nat.le_of_ble_eq_true rfl, Nat.le_of_ble_eq_true rfl⟩ rfl (Nat.le_of_ble_eq_true rfl) dX4_open_32 ⟨Nat.le_of_ble_eq_true rfl, Nat.le_of_ble_eq_true rfl⟩ (fun v M1 H locs hq w => ?_)
    obtain ⟨rfl, c2, g2, hW2, hQ2⟩ := hq
    refine W.eq (g2 := F0 m 35 ls [.int ((movd (kep S t) t i1 t (i1 + n1) (nI (zT S t) - i1 - n1)).1), .ref m0]) rfl ?_
    refine m_callV C w hl.1 (As := [.int ((movd (kep S t) t i1 t (i1 + n1) (nI (zT S t) - i1 - n1)).1)]) (rest := []) (r_told0 l D y S0 M1 F m0 B fr nc c2 g2 b1 b1 cn (movd (kep S t) t i1 t (i1 + n1) (nI (zT S t) - i1 - n1)).2 hW2 hQ2 c0 (inv_movd hI1 ht ht _ _ _) (movd (kep S t) t i1 t (i1 + n1) (nI (zT S t) - i1 - n1)).1 (movd_ok hI1 ht ht)) gX4_open_X4_told0 rfl hW2.1 (T := TX4) (N := 16) rfl (show (_ = _ ∧ _ ≠ _ ∧ _ ≠ _ ∧ _ = some 1) by decide +kernel) ⟨Nat.le_of_ble_eq_true rfl, Nat.le_of_ble_eq_true rfl⟩ rfl (Nat.le_of_ble_eq_true rfl) dX4_open_35 ⟨Nat.le_of_ble_eq_true rfl, Nat.le_of_ble_eq_true rfl⟩ (fun v M1 H locs hq w => ?_)
    obtain ⟨rfl, c9, hW9, hQ9⟩ := hq
    refine W.eq (g2 := F0 m 38 ls [.int ((movd (kep S t) t i1 t (i1 + n1) (nI (zT S t) - i1 - n1)).1)]) rfl ?_
    exact m_iret C w dX4_open_38 (by omega) (by omega) (⟨by rw [hm], by rw [hm]; exact ⟨B, fr, nc, c2, g2, b1, c9, hW9, hQ9⟩⟩)
  · skip
    have n_4 : (inP t1 12) = false := bI_f c_4
    refine lv_bipush (v := (-6)) hx hb dX4_open_7 (by decide) ?_
    exact m_iret C w dX4_open_9 (by omega) (by omega) (⟨by rw [(show sp_open S t1 i1 n1 = (-6, S) by unfold sp_open; rw [if_pos (by first | (simp [n_4]; done))])], by rw [(show sp_open S t1 i1 n1 = (-6, S) by unfold sp_open; rw [if_pos (by first | (simp [n_4]; done))])]; exact ⟨B, fr, nc, cl, go, bf, cn, hW, hQ⟩⟩)
set_option maxRecDepth 100000 in
set_option maxHeartbeats 4000000 in
theorem r_close (l : Launch) (D : va_G) (y : mY) (S0 : Nat) (M F : mp) (m0 : Nat) (B : Nat → Nat) (fr : Nat → Nat) (nc : Nat) (cl go bf : Nat → Int64) (cn : Nat → Int32) (S : St) (hW : MW y m0 B fr nc cl go bf cn S M) (hQ : MR fr nc cl bf cn S) (c0 : Nat) (hI : Inv c0 S) (t1 i1 n1 : Int32) : ct l yX4_close wsX4_close 4 93 0 0 D y S0 M F [.ref m0, .int t1, .int i1, .int n1] (fun v M' => v = some (.int (sp_close S t1 i1 n1).1) ∧ RM y m0 (sp_close S t1 i1 n1).2 M') := by
  refine ct_of cX4_close 4 (some .int) [(0, .ref m0), (1, .int t1), (2, .int i1), (3, .int n1)] (by decide +kernel) rfl (Nat.le_of_ble_eq_true rfl) rfl ?_
  intro p e s m below meth c ls C hnm hl w
  have hx := C.1
  have hb := C.2.1
  have hi_X4 : ∀ w ∈ u_ws RX4 TX4 16, w ∈ wsX4_close := by decide +kernel
  refine lv_iload_n hx hb dX4_close_0 rfl (lv_at hl 1 rfl) ?_
  refine m_callS C w hl.1 (As := [.int t1]) (rest := []) (r_isTray l D y S0 M F t1) ggX4_close_X4_isTray rfl (by decide +kernel) (by decide +kernel) (by decide +kernel) (show (_ ≠ _ ∧ _ ≠ _ ∧ _ = some 1) by decide +kernel) ⟨Nat.le_of_ble_eq_true rfl, Nat.le_of_ble_eq_true rfl⟩ rfl (Nat.le_of_ble_eq_true rfl) dX4_close_1 ⟨Nat.le_of_ble_eq_true rfl, Nat.le_of_ble_eq_true rfl⟩ (fun v M1 H locs hq w => ?_)
  obtain ⟨rfl, hM1⟩ := hq
  rw [hM1] at w
  clear hM1 M1
  refine W.eq (g2 := F0 m 4 ls [.int (bI (inP t1 12))]) rfl ?_
  refine lv_if_ne (tgt := 10) hx hb dX4_close_4 (by decide) (fun c_4 => ?_) (fun c_4 => ?_)
  · skip
    have n_4 : (inP t1 12) = true := bI_t c_4
    obtain ⟨t, ht, et⟩ := inP_t (by decide) n_4
    have hm : sp_close S t1 i1 n1 = ((movd (kep S t) t (i1 + n1) t i1 (nI (zT S t) - i1 - n1)).1, tell (movd (kep S t) t (i1 + n1) t i1 (nI (zT S t) - i1 - n1)).2 (movd (kep S t) t (i1 + n1) t i1 (nI (zT S t) - i1 - n1)).1) := by
      unfold sp_close
      rw [if_neg (by simp [n_4]), et, cN_nI (by omega)]
      unfold sp_move
      rw [if_neg (by rw [inP_nI ht (by decide)]; decide), cN_nI (by omega)]
    refine lv_aload_n hx hb dX4_close_10 rfl (lv_at hl 0 rfl) ?_
    refine lv_iload_n hx hb dX4_close_11 rfl (lv_at hl 1 rfl) ?_
    refine m_topi (y := nI t) et ?_
    refine m_callV C w hl.1 (As := [.int (nI t)]) (rest := []) (r_keep l D y S0 M F m0 B fr nc cl go bf bf cn S hW hQ c0 hI t ht) gX4_close_X4_keep rfl hW.1 (T := TX4) (N := 16) rfl (show (_ = _ ∧ _ ≠ _ ∧ _ ≠ _ ∧ _ = some 1) by decide +kernel) ⟨Nat.le_of_ble_eq_true rfl, Nat.le_of_ble_eq_true rfl⟩ rfl (Nat.le_of_ble_eq_true rfl) dX4_close_12 ⟨Nat.le_of_ble_eq_true rfl, Nat.le_of_ble_eq_true rfl⟩ (fun v M1 H locs hq w => ?_)
    obtain ⟨rfl, b1, hW1, hQ1⟩ := hq
    have hI1 := inv_kep hI ht
    refine W.eq (g2 := F0 m 15 ls []) rfl ?_
    refine lv_aload_n hx hb dX4_close_15 rfl (lv_at hl 0 rfl) ?_
    refine lv_aload_n hx hb dX4_close_16 rfl (lv_at hl 0 rfl) ?_
    refine lv_iload_n hx hb dX4_close_17 rfl (lv_at hl 1 rfl) ?_
    refine m_topi (y := nI t) et ?_
    refine lv_iload_n hx hb dX4_close_18 rfl (lv_at hl 2 rfl) ?_
    refine lv_iload_n hx hb dX4_close_19 rfl (lv_at hl 3 rfl) ?_
    refine lv_iadd hx hb dX4_close_20 ?_
    refine lv_iload_n hx hb dX4_close_21 rfl (lv_at hl 1 rfl) ?_
    refine m_topi (y := nI t) et ?_
    refine lv_iload_n hx hb dX4_close_22 rfl (lv_at hl 2 rfl) ?_
    refine lv_aload_n hx hb dX4_close_23 rfl (lv_at hl 0 rfl) ?_
    refine lv_iload_n hx hb dX4_close_24 rfl (lv_at hl 1 rfl) ?_
    refine m_topi (y := nI t) et ?_
    refine m_callV C w hl.1 (As := [.int (nI t)]) (rest := [.int i1, .int (nI t), .int (i1 + n1), .int (nI t), .ref m0, .ref m0]) (r_sizeOf l D y S0 M1 F m0 B fr nc cl go b1 b1 cn (kep S t) hW1 hQ1 c0 hI1 t ht) gX4_close_X4_sizeOf rfl hW1.1 (T := TX4) (N := 16) rfl (show (_ = _ ∧ _ ≠ _ ∧ _ ≠ _ ∧ _ = some 1) by decide +kernel) ⟨Nat.le_of_ble_eq_true rfl, Nat.le_of_ble_eq_true rfl⟩ rfl (Nat.le_of_ble_eq_true rfl) dX4_close_25 ⟨Nat.le_of_ble_eq_true rfl, Nat.le_of_ble_eq_true rfl⟩ (fun v M1 H locs hq w => ?_)
    rw [zT_kep] at hq
    obtain ⟨rfl, hM1⟩ := hq
    rw [hM1] at w
    clear hM1 M1
    refine W.eq (g2 := F0 m 28 ls [.int (nI (zT S t)), .int i1, .int (nI t), .int (i1 + n1), .int (nI t), .ref m0, .ref m0]) rfl ?_
    refine lv_iload_n hx hb dX4_close_28 rfl (lv_at hl 2 rfl) ?_
    refine lv_isub hx hb dX4_close_29 ?_
    refine lv_iload_n hx hb dX4_close_30 rfl (lv_at hl 3 rfl) ?_
    refine lv_isub hx hb dX4_close_31 ?_
    refine m_callV C w hl.1 (As := [.int (nI t), .int (i1 + n1), .int (nI t), .int i1, .int (((nI (zT S t)) - i1) - n1)]) (rest := [.ref m0]) (r_moved l D y S0 M1 F m0 B fr nc cl go b1 b1 cn (kep S t) hW1 hQ1 c0 hI1 t t ht ht (i1 + n1) i1 (nI (zT S t) - i1 - n1)) gX4_close_X4_moved rfl hW1.1 (T := TX4) (N := 16) rfl (show (_ = _ ∧ _ ≠ _ ∧ _ ≠ _ ∧ _ = some 5) by decide +kernel) ⟨Nat.le_of_ble_eq_true rfl, Nat.le_of_ble_eq_true rfl⟩ rfl (Nat.le_of_ble_eq_true rfl) dX4_close_32 ⟨Nat.le_of_ble_eq_true rfl, Nat.le_of_ble_eq_true rfl⟩ (fun v M1 H locs hq w => ?_)
    obtain ⟨rfl, c2, g2, hW2, hQ2⟩ := hq
    refine W.eq (g2 := F0 m 35 ls [.int ((movd (kep S t) t (i1 + n1) t i1 (nI (zT S t) - i1 - n1)).1), .ref m0]) rfl ?_
    refine m_callV C w hl.1 (As := [.int ((movd (kep S t) t (i1 + n1) t i1 (nI (zT S t) - i1 - n1)).1)]) (rest := []) (r_told0 l D y S0 M1 F m0 B fr nc c2 g2 b1 b1 cn (movd (kep S t) t (i1 + n1) t i1 (nI (zT S t) - i1 - n1)).2 hW2 hQ2 c0 (inv_movd hI1 ht ht _ _ _) (movd (kep S t) t (i1 + n1) t i1 (nI (zT S t) - i1 - n1)).1 (movd_ok hI1 ht ht)) gX4_close_X4_told0 rfl hW2.1 (T := TX4) (N := 16) rfl (show (_ = _ ∧ _ ≠ _ ∧ _ ≠ _ ∧ _ = some 1) by decide +kernel) ⟨Nat.le_of_ble_eq_true rfl, Nat.le_of_ble_eq_true rfl⟩ rfl (Nat.le_of_ble_eq_true rfl) dX4_close_35 ⟨Nat.le_of_ble_eq_true rfl, Nat.le_of_ble_eq_true rfl⟩ (fun v M1 H locs hq w => ?_)
    obtain ⟨rfl, c9, hW9, hQ9⟩ := hq
    refine W.eq (g2 := F0 m 38 ls [.int ((movd (kep S t) t (i1 + n1) t i1 (nI (zT S t) - i1 - n1)).1)]) rfl ?_
    exact m_iret C w dX4_close_38 (by omega) (by omega) (⟨by rw [hm], by rw [hm]; exact ⟨B, fr, nc, c2, g2, b1, c9, hW9, hQ9⟩⟩)
  · skip
    have n_4 : (inP t1 12) = false := bI_f c_4
    refine lv_bipush (v := (-6)) hx hb dX4_close_7 (by decide) ?_
    exact m_iret C w dX4_close_9 (by omega) (by omega) (⟨by rw [(show sp_close S t1 i1 n1 = (-6, S) by unfold sp_close; rw [if_pos (by first | (simp [n_4]; done))])], by rw [(show sp_close S t1 i1 n1 = (-6, S) by unfold sp_close; rw [if_pos (by first | (simp [n_4]; done))])]; exact ⟨B, fr, nc, cl, go, bf, cn, hW, hQ⟩⟩)
