theorem up2_r {α : Type} {f : Nat → Nat → α} {a i b : Nat} {v : α} (h : b ≠ a) : up2 f a i v b = f b := by
  unfold up2 va_up
  simp [h]
theorem hpl_t {p n : Int32} {z : Nat} (hz : z ≤ 64) (h : hpl p n z = true) : ∃ pp nn, p = nI pp ∧ n = nI nn ∧ pp + nn ≤ z := by
  unfold hpl at h
  simp only [Bool.and_eq_true, Bool.not_eq_true', decide_eq_false_iff_not] at h
  obtain ⟨h1, h2, h3⟩ := h
  obtain ⟨pp, hp, rfl⟩ := nI_of h1
  obtain ⟨nn, hn, rfl⟩ := nI_of h2
  refine ⟨pp, nn, rfl, rfl, ?_⟩
  rw [nI_l hp, nI_l hn, lN_add, pk_lLT (by omega) (by omega)] at h3
  omega
theorem hpl_nI {p n z : Nat} (hz : z ≤ 64) (h : p + n ≤ z) : hpl (nI p) (nI n) z = true := by
  unfold hpl
  simp only [Bool.and_eq_true, Bool.not_eq_true', decide_eq_false_iff_not]
  refine ⟨nI_pos (by omega), nI_pos (by omega), ?_⟩
  rw [nI_l (by omega), nI_l (by omega), lN_add, pk_lLT (by omega) (by omega)]
  omega
theorem kin_nu {ka kb : Nat} (ha : 2 ≤ ka) (hb : 2 ≤ kb) (hu : ¬ ((isN ka || isN kb) = true ∧ ka ≠ kb)) (A : Ad) (x : Int64) : nu ka x = nu kb x ∧ th A ka x = th A kb x := by
  by_cases e : ka = kb
  · rw [e]; exact ⟨rfl, rfl⟩
  · have h1 : ¬ ka ≤ 9 := fun h => hu ⟨by simp [isN]; omega, e⟩
    have h2 : ¬ kb ≤ 9 := fun h => hu ⟨by simp [isN]; omega, e⟩
    unfold nu th
    rw [if_neg h1, if_neg h2, if_neg h1, if_neg h2]
    exact ⟨rfl, rfl⟩
theorem Inv.fl {c : Nat} {S : St} (h : Inv c S) {k : Nat} (hk : k ≤ 64) : Inv c (wFl S k) := by
  obtain ⟨h1, h2, h3, h4, h5, h6, h7, h8, h9⟩ := h
  exact ⟨h1, h2, h3, h4, h5, h6, h7, h8, hk⟩
theorem CR.fl {A : Ad} {f : Nat → Nat → Int64} {g : Nat → Nat → Option Nat} {S : St} (h : CR A f g S) (k : Nat) : CR A f g (wFl S k) := h
set_option maxRecDepth 100000 in
set_option maxHeartbeats 4000000 in
/-- keep(the holding of tray t) -/
theorem c_keep (l : Launch) (D : va_G) (y : mY) (S0 : Nat) (M F : mp) (h0 : Nat) (A : Ad) (tr : Nat → Nat) (f : Nat → Nat → Int64) (g : Nat → Nat → Option Nat) (S : St) (hC : CW y h0 A tr f g S M) (c0 : Nat) (hI : Inv c0 S) (hR : CR A f g S) (t : Nat) (ht : t < 12) : ct l yX3_keep wsX3_keep 1 23 0 0 D y S0 M F [.ref h0, .ref (tr t)] (fun v M' => v = none ∧ ∃ f' g', CW y h0 A tr f' g' (kep S t) M' ∧ CR A f' g' (kep S t)) := by
  refine ct_of cX3_keep 3 none [(0, .ref h0), (1, .ref (tr t))] (by decide +kernel) rfl (Nat.le_of_ble_eq_true rfl) rfl ?_
  intro p e s m below meth c ls C hnm hl w
  have hx := C.1
  have hb := C.2.1
  have hi_X0 : ∀ w ∈ u_ws RX0 TX0 5, w ∈ wsX3_keep := by decide +kernel
  have hi_X3 : ∀ w ∈ u_ws RX3 TX3 7, w ∈ wsX3_keep := by decide +kernel
  obtain ⟨tk, na, ta, hq0, -, hrow⟩ := hC.1.tray hI ht
  have hk : sH S t < 14 := by have := (hI.2.2.2.2.2.2.1 t ht).1; omega
  have hz := zT_le hI ht
  refine lv_aload_n hx hb dX3_keep_0 rfl (lv_at hl 0 rfl) ?_
  refine lv_aload_n hx hb dX3_keep_1 rfl (lv_at hl 1 rfl) ?_
  refine m_callV C w hl.1 (As := []) (rest := [.ref h0]) (c_Hold_refusal l D y S0 M F (tr t) (sH S t) (zT S t) tk na ta hq0 hk hz) gX3_keep_X0_refusal rfl hq0 (T := TX0) (N := 5) rfl (show (_ = _ ∧ _ ≠ _ ∧ _ ≠ _ ∧ _ = some 0) by decide +kernel) ⟨Nat.le_of_ble_eq_true rfl, Nat.le_of_ble_eq_true rfl⟩ rfl (Nat.le_of_ble_eq_true rfl) dX3_keep_2 ⟨Nat.le_of_ble_eq_true rfl, Nat.le_of_ble_eq_true rfl⟩ (fun v M1 H locs hq w => ?_)
  obtain ⟨rfl, hM1⟩ := hq
  rw [hM1] at w
  clear hM1 M1
  refine W.eq (g2 := F0 m 5 ls [.int (fR (sH S t)), .ref h0]) rfl ?_
  refine lv_if_ne (tgt := 12) hx hb dX3_keep_5 (by decide) (fun c_5 => ?_) (fun c_5 => ?_)
  · skip
    refine lv_null hx hb dX3_keep_12 ?_
    refine m_put C w hC.1.1 (v := .null) (index := 25) (T := TX3) (N := 7) rfl hi_X3 tyX3 tyX3_ok nmX3 3 (by decide) (by decide +kernel) rfl (tyX3_ok 3 (by decide)) rfl rfl (Nat.le_of_ble_eq_true rfl) dX3_keep_13 (fun H locs w => ?_)
    have hlt : ¬ 2 ≤ sH S t := fun h => c_5 (fR_0.mpr h)
    have ek : kep S t = wBf S none (sF S) := by unfold kep; rw [if_neg hlt]
    have hz0 : zT S t = 0 := by unfold zT; rw [if_neg hlt]
    obtain ⟨M1, e_M1⟩ : ∃ z, z = mu M h0 (eO 2 (bF A (kep S t))) := ⟨_, rfl⟩
    have w : mS D S0 M1 F s H locs := by rw [e_M1, ek]; exact w
    have hC1 : CW y h0 A tr f g (kep S t) M1 := by rw [e_M1]; exact hC.ben _ (by rw [ek]; exact ⟨rfl, rfl, rfl, rfl, rfl, rfl, rfl, rfl, rfl⟩)
    have hq1 : M1 (tr t) = some (eO 0 (hF (sH S t) (zT S t) tk na ta)) := by rw [e_M1]; exact mu_k (m_ne hq0 hC.1.1 (by simp)) hq0
    refine lv_iconst (v := 0) hx hb dX3_keep_16 (by decide) ?_
    refine lv_istore_n (lv' := [(2, .int 0), (0, .ref h0), (1, .ref (tr t))]) hx hb dX3_keep_17 rfl hl (by decide) rfl (fun ls hl => ?_)
    refine lv_iload_n hx hb dX3_keep_18 rfl (lv_at hl 0 rfl) ?_
    refine lv_aload_n hx hb dX3_keep_19 rfl (lv_at hl 2 rfl) ?_
    refine m_getN C w hq1 (index := 89) (host := "BeadBench") (T := TX0) (N := 5) rfl hi_X0 1 (by decide) (by decide +kernel) rfl dX3_keep_20 ?_
    refine lv_icmp_ge (tgt := 42) hx hb dX3_keep_23 (by decide) (fun c_23 => ?_) (fun c_23 => ?_)
    · skip
      have n_23 : (zT S t) ≤ 0 := (nI_leI (by omega) (by omega)).mp c_23
      exact m_vret C w dX3_keep_42 (by omega) (by omega) (⟨rfl, f, g, hC1, by rw [ek]; exact ⟨hR.1, fun r i h => by cases h⟩⟩)
    · skip
      have n_23 : ¬ (zT S t) ≤ 0 := fun h => absurd ((nI_leI (by omega) (by omega)).mpr h) c_23
      exact absurd (show 0 < 0 by omega) (by omega)
  · skip
    refine lv_aload_n hx hb dX3_keep_8 rfl (lv_at hl 1 rfl) ?_
    refine lv_goto (tgt := 13) hx hb dX3_keep_9 (by decide) ?_
    refine m_put C w hC.1.1 (v := .ref (tr t)) (index := 25) (T := TX3) (N := 7) rfl hi_X3 tyX3 tyX3_ok nmX3 3 (by decide) (by decide +kernel) rfl (tyX3_ok 3 (by decide)) rfl rfl (Nat.le_of_ble_eq_true rfl) dX3_keep_13 (fun H locs w => ?_)
    have h2 : 2 ≤ sH S t := fR_0.mp c_5
    have ek : kep S t = (wBf S (some (rowT S t)) (sC S (rowT S t))) := by unfold kep; rw [if_pos h2]
    obtain ⟨hr, -, ekd, etr, -, -⟩ := hrow h2
    have hzT : zT S t = sZ S (rowT S t) := by unfold zT; rw [if_pos h2]
    rw [etr] at w
    obtain ⟨M1, e_M1⟩ : ∃ z, z = mu M h0 (eO 2 (bF A (kep S t))) := ⟨_, rfl⟩
    have w : mS D S0 M1 F s H locs := by rw [e_M1, ek]; exact w
    have hC1 : CW y h0 A tr f g (kep S t) M1 := by rw [e_M1]; exact hC.ben _ (by rw [ek]; exact ⟨rfl, rfl, rfl, rfl, rfl, rfl, rfl, rfl, rfl⟩)
    have hq1 : M1 (tr t) = some (eO 0 (hF (sH S t) (zT S t) tk na ta)) := by rw [e_M1]; exact mu_k (m_ne hq0 hC.1.1 (by simp)) hq0
    rw [ek] at hC1
    refine lv_iconst (v := 0) hx hb dX3_keep_16 (by decide) ?_
    refine lv_istore_n (lv' := [(2, .int 0), (0, .ref h0), (1, .ref (tr t))]) hx hb dX3_keep_17 rfl hl (by decide) rfl (fun ls hl => ?_)
    have lp : ∀ (kf : Nat) (i : Nat) (f1 : Nat → Nat → Int64) (g1 : Nat → Nat → Option Nat) (M2 : mp), (i ≤ zT S t) → (CW y h0 A tr f1 g1 (wBf S (some (rowT S t)) (sC S (rowT S t))) M2) → (∀ j, j ≠ 0 → f1 j = f j ∧ g1 j = g j) → (∀ x, x < i → f1 0 x = f (rowT S t + 1) x ∧ g1 0 x = g (rowT S t + 1) x) →  ∀ (H : Heap) (locs : List Loc) (ls : Array Slot), zT S t - i = kf → mS D S0 M2 F s H locs → lv_has ls 3 [(2, .int (nI i)), (0, .ref h0), (1, .ref (tr t))] → W p l e { frames := 1, cells := 0, slots := 0, locals := 23 } s m ([.ref h0, .ref (tr t)] : List Value).toArray below meth c H locs 0 0 (MQ below (mQ D S0 F (fun v M' => v = none ∧ ∃ f' g', CW y h0 A tr f' g' (kep S t) M' ∧ CR A f' g' (kep S t))) ([.ref h0, .ref (tr t)] : List Value).toArray s 0 0 (fun q => S0 ≤ q)) (F0 m 18 ls []) := by
      clear w hl
      intro kf
      induction kf using Nat.strongRecOn with
      | _ kf ih_lp =>
        intro i f1 g1 M2 hi hC2 hf hd H locs ls hkf w hl
        have hq2 : M2 (tr t) = some (eO 0 (hF (sH S t) (zT S t) 0 (xn A (rowT S t + 1)) (xt A (rowT S t + 1)))) := by rw [etr, hzT, ← ekd]; exact hC2.1.2.2.2.2.2.1 (rowT S t) hr
        have hn2 : M2 (xn A (rowT S t + 1)) = some (eL y (zT S t) (f1 (rowT S t + 1))) := by rw [hzT]; exact hC2.2.1.1 (rowT S t + 1) hr
        have ht2 : M2 (xt A (rowT S t + 1)) = some (eT y (zT S t) (g1 (rowT S t + 1))) := by rw [hzT]; exact hC2.2.1.2.1 (rowT S t + 1) hr
        refine lv_iload_n hx hb dX3_keep_18 rfl (lv_at hl 0 rfl) ?_
        refine lv_aload_n hx hb dX3_keep_19 rfl (lv_at hl 2 rfl) ?_
        refine m_getN C w hq2 (index := 89) (host := "BeadBench") (T := TX0) (N := 5) rfl hi_X0 1 (by decide) (by decide +kernel) rfl dX3_keep_20 ?_
        refine lv_icmp_ge (tgt := 42) hx hb dX3_keep_23 (by decide) (fun c_23 => ?_) (fun c_23 => ?_)
        · skip
          have n_23 : (zT S t) ≤ i := (nI_leI (by omega) (by omega)).mp c_23
          exact m_vret C w dX3_keep_42 (by omega) (by omega) (⟨rfl, f1, g1, by rw [ek]; exact hC2, by
            rw [ek]
            have hi2 : i = sZ S (rowT S t) := by omega
            refine ⟨fun r x hr2 hx => ?_, fun r x hr2 hx => ?_⟩
            · rw [(hf _ (Nat.succ_ne_zero _)).1, (hf _ (Nat.succ_ne_zero _)).2]; exact hR.1 r x hr2 hx
            · cases hr2
              have hx2 : x < sZ S (rowT S t) := hx
              rw [(hd x (by omega)).1, (hd x (by omega)).2]; exact hR.1 (rowT S t) x hr hx2⟩)
        · skip
          have n_23 : ¬ (zT S t) ≤ i := fun h => absurd ((nI_leI (by omega) (by omega)).mpr h) c_23
          refine lv_aload_n hx hb dX3_keep_26 rfl (lv_at hl 1 rfl) ?_
          refine m_get C w hC2.1.1 (index := 22) (T := TX3) (N := 7) rfl hi_X3 2 (by decide) (by decide +kernel) rfl dX3_keep_27 ?_
          refine lv_iload_n hx hb dX3_keep_30 rfl (lv_at hl 0 rfl) ?_
          refine lv_aload_n hx hb dX3_keep_31 rfl (lv_at hl 2 rfl) ?_
          refine lv_iload_n hx hb dX3_keep_32 rfl (lv_at hl 0 rfl) ?_
          refine m_callV C w hl.1 (As := [.int (nI i), .ref (tr t), .int (nI i)]) (rest := []) (c_Hold_copy l D y S0 M2 F (xB A) 0 64 0 (xn A 0) (xt A 0) hC2.1.2.2.2.1 (tr t) (sH S t) (zT S t) 0 (xn A (rowT S t + 1)) (xt A (rowT S t + 1)) hq2 (f1 0) (f1 (rowT S t + 1)) (g1 0) (g1 (rowT S t + 1)) (hC2.2.1.1 0 (Nat.zero_le _)) (hC2.2.1.2.1 0 (Nat.zero_le _)) hn2 ht2 i i (by omega) (by omega) (by omega) (by omega) (fun z hz => hC2.1.th (hC2.2.1.2.2 (rowT S t + 1) i z hr (by rw [zz_s]; show i < sZ S (rowT S t); omega) hz))) gX3_keep_X0_copyPlace rfl hC2.1.2.2.2.1 (T := TX0) (N := 5) rfl (show (_ = _ ∧ _ ≠ _ ∧ _ ≠ _ ∧ _ = some 3) by decide +kernel) ⟨Nat.le_of_ble_eq_true rfl, Nat.le_of_ble_eq_true rfl⟩ rfl (Nat.le_of_ble_eq_true rfl) dX3_keep_33 ⟨Nat.le_of_ble_eq_true rfl, Nat.le_of_ble_eq_true rfl⟩ (fun v M1 H locs hq w => ?_)
          obtain ⟨rfl, hM1⟩ := hq
          have hC3 := hC2.copy (a := 0) (b := rowT S t + 1) (i := i) (j := i) (Nat.zero_le _) hr (by rw [zz_0]; omega) (by rw [zz_s]; show i < sZ S (rowT S t); omega)
          rw [show zz (wBf S (some (rowT S t)) (sC S (rowT S t))) 0 = 64 from rfl, ← hM1] at hC3
          refine W.eq (g2 := F0 m 36 ls []) rfl ?_
          refine lv_iinc (v := nI (i + 1)) (lv' := [(2, .int (nI (i + 1))), (0, .ref h0), (1, .ref (tr t))]) hx hb dX3_keep_36 hl (k := 0) rfl (by first | exact nI_1 _ | exact nI_add _ _ | rfl) (by decide) rfl (fun ls hl => ?_)
          refine lv_goto (tgt := 18) hx hb dX3_keep_39 (by decide) ?_
          exact ih_lp (zT S t - (i + 1)) (by omega) (i + 1) _ _ M1 (by omega) hC3 (fun j hj => ⟨(up2_r hj).trans (hf j hj).1, (up2_r hj).trans (hf j hj).2⟩) (fun x hx => by
              by_cases e : x = i
              · rw [e, up2_s, up2_s, (hf _ (Nat.succ_ne_zero _)).1, (hf _ (Nat.succ_ne_zero _)).2]; exact ⟨rfl, rfl⟩
              · rw [up2_o (Or.inr e), up2_o (Or.inr e)]; exact hd x (by omega)) _ _ ls rfl w (lv_sub hl [0, 1, 2] rfl)
    exact lp _ 0 f g M1 (by omega) hC1 (fun _ _ => ⟨rfl, rfl⟩) (fun x hx => by omega) _ _ ls rfl w (lv_sub hl [0, 1, 2] rfl)
