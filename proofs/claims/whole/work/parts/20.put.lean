def mkPj (S : St) (j : Nat) : Int64 × St := if j = 0 then (0, S) else (lN (sP S + 1), wPc S (sP S + 1) (va_up (sS S) (sP S + 1) j))
theorem th_k {A : Ad} {k : Nat} (h : 10 ≤ k) (x : Int64) : th A k x = th A 10 x := by
  unfold th
  rw [if_neg (show ¬ k ≤ 9 by omega), if_neg (show ¬ 10 ≤ 9 by omega)]
theorem th_9 {A : Ad} {k : Nat} (h : k ≤ 9) (x : Int64) : th A k x = none := by
  unfold th
  rw [if_pos h]
theorem CR.set {A : Ad} {f : Nat → Nat → Int64} {g : Nat → Nat → Option Nat} {S : St} (h : CR A f g S) (r i : Nat) (x : Int64) : CR A (up2 f (r + 1) i (nu (sK S r) x)) (up2 g (r + 1) i (th A (sK S r) x)) (pRC S r i x) := by
  refine ⟨fun q j hq hj => ?_, fun q j hq hj => ?_⟩
  · show up2 f (r + 1) i (nu (sK S r) x) (q + 1) j = nu (sK S q) (va_up (sC S) r (va_up (sC S r) i x) q j) ∧ up2 g (r + 1) i (th A (sK S r) x) (q + 1) j = th A (sK S q) (va_up (sC S) r (va_up (sC S r) i x) q j)
    by_cases e : q = r
    · by_cases e2 : j = i
      · rw [e, e2, up2_s, up2_s, va_ups, va_ups]; exact ⟨rfl, rfl⟩
      · rw [up2_o (Or.inr e2), up2_o (Or.inr e2), e, va_ups, va_upo e2]; rw [e] at hq hj; exact h.1 r j hq hj
    · rw [up2_o (Or.inl (fun z => e (Nat.succ.inj z))), up2_o (Or.inl (fun z => e (Nat.succ.inj z))), va_upo e]; exact h.1 q j hq hj
  · rw [up2_r (Ne.symm (Nat.succ_ne_zero _)), up2_r (Ne.symm (Nat.succ_ne_zero _))]
    exact h.2 q j hq hj
set_option maxRecDepth 100000 in
set_option maxHeartbeats 4000000 in
theorem c_numberFor (l : Launch) (D : va_G) (y : mY) (S0 : Nat) (M F : mp) (k : Nat) (hk : k < 14) (v1 : Int32) : ct l yX3_numberFor wsX3_numberFor 0 0 0 0 D y S0 M F [.int (nI k), .int v1] (fun v M' => v = some (.long (nw k v1)) ∧ M' = M) := by
  refine ct_of cX3_numberFor 2 (some .long) [(0, .int (nI k)), (1, .int v1)] (by decide +kernel) rfl (Nat.le_of_ble_eq_true rfl) rfl ?_
  intro p e s m below meth c ls C hnm hl w
  have hx := C.1
  have hb := C.2.1
  refine lv_iload_n hx hb dX3_numberFor_0 rfl (lv_at hl 0 rfl) ?_
  have hkI : (nI k).toInt = (k : Int) := nI_toInt (by omega)
  by_cases kd : k < 2 ∨ 8 < k
  · refine lv_tableOut (tgt := 70) hx hb dX3_numberFor_1 (by rw [hkI]; omega) (by decide) ?_
    refine lv_iload_n hx hb dX3_numberFor_70 rfl (lv_at hl 1 rfl) ?_
    refine lv_i2l hx hb dX3_numberFor_71 rfl ?_
    exact m_lret C w dX3_numberFor_72 (by omega) (by omega) (⟨by unfold nw; rw [if_neg (by omega), if_neg (by omega), if_neg (by omega), if_neg (by omega), if_neg (by omega)], rfl⟩)
  rcases (show k = 2 ∨ k = 3 ∨ k = 4 ∨ k = 5 ∨ k = 6 ∨ k = 7 ∨ k = 8 by omega) with rfl | rfl | rfl | rfl | rfl | rfl | rfl
  · refine lv_tableIn (tgt := 44) (off := 43) hx hb dX3_numberFor_1 (by rw [hkI]; decide) (by rw [hkI]; decide) (by rw [hkI]; rfl) (by decide) ?_
    refine lv_iload_n hx hb dX3_numberFor_44 rfl (lv_at hl 1 rfl) ?_
    refine lv_if_eq (tgt := 52) hx hb dX3_numberFor_45 (by decide) (fun c_45 => ?_) (fun c_45 => ?_)
    · skip
      refine lv_lconst (v := 0) hx hb dX3_numberFor_52 (by decide) ?_
      exact m_lret C w dX3_numberFor_53 (by omega) (by omega) (⟨by simp [nw, c_45], rfl⟩)
    · skip
      refine lv_lconst (v := 1) hx hb dX3_numberFor_48 (by decide) ?_
      refine lv_goto (tgt := 53) hx hb dX3_numberFor_49 (by decide) ?_
      exact m_lret C w dX3_numberFor_53 (by omega) (by omega) (⟨by simp [nw, c_45], rfl⟩)
  · refine lv_tableIn (tgt := 54) (off := 53) hx hb dX3_numberFor_1 (by rw [hkI]; decide) (by rw [hkI]; decide) (by rw [hkI]; rfl) (by decide) ?_
    refine lv_iload_n hx hb dX3_numberFor_54 rfl (lv_at hl 1 rfl) ?_
    refine lv_i2b hx hb dX3_numberFor_55 rfl ?_
    refine lv_i2l hx hb dX3_numberFor_56 rfl ?_
    exact m_lret C w dX3_numberFor_57 (by omega) (by omega) (⟨by simp [nw], rfl⟩)
  · refine lv_tableIn (tgt := 58) (off := 57) hx hb dX3_numberFor_1 (by rw [hkI]; decide) (by rw [hkI]; decide) (by rw [hkI]; rfl) (by decide) ?_
    refine lv_iload_n hx hb dX3_numberFor_58 rfl (lv_at hl 1 rfl) ?_
    refine lv_i2c hx hb dX3_numberFor_59 rfl ?_
    refine lv_i2l hx hb dX3_numberFor_60 rfl ?_
    exact m_lret C w dX3_numberFor_61 (by omega) (by omega) (⟨by simp [nw], rfl⟩)
  · refine lv_tableIn (tgt := 62) (off := 61) hx hb dX3_numberFor_1 (by rw [hkI]; decide) (by rw [hkI]; decide) (by rw [hkI]; rfl) (by decide) ?_
    refine lv_iload_n hx hb dX3_numberFor_62 rfl (lv_at hl 1 rfl) ?_
    refine lv_i2s hx hb dX3_numberFor_63 rfl ?_
    refine lv_i2l hx hb dX3_numberFor_64 rfl ?_
    exact m_lret C w dX3_numberFor_65 (by omega) (by omega) (⟨by simp [nw], rfl⟩)
  · refine lv_tableIn (tgt := 70) (off := 69) hx hb dX3_numberFor_1 (by rw [hkI]; decide) (by rw [hkI]; decide) (by rw [hkI]; rfl) (by decide) ?_
    refine lv_iload_n hx hb dX3_numberFor_70 rfl (lv_at hl 1 rfl) ?_
    refine lv_i2l hx hb dX3_numberFor_71 rfl ?_
    exact m_lret C w dX3_numberFor_72 (by omega) (by omega) (⟨by simp [nw], rfl⟩)
  · refine lv_tableIn (tgt := 70) (off := 69) hx hb dX3_numberFor_1 (by rw [hkI]; decide) (by rw [hkI]; decide) (by rw [hkI]; rfl) (by decide) ?_
    refine lv_iload_n hx hb dX3_numberFor_70 rfl (lv_at hl 1 rfl) ?_
    refine lv_i2l hx hb dX3_numberFor_71 rfl ?_
    exact m_lret C w dX3_numberFor_72 (by omega) (by omega) (⟨by simp [nw], rfl⟩)
  · refine lv_tableIn (tgt := 66) (off := 65) hx hb dX3_numberFor_1 (by rw [hkI]; decide) (by rw [hkI]; decide) (by rw [hkI]; rfl) (by decide) ?_
    refine lv_iload_n hx hb dX3_numberFor_66 rfl (lv_at hl 1 rfl) ?_
    refine lv_i2f hx hb dX3_numberFor_67 ?_
    refine lv_f2l hx hb dX3_numberFor_68 ?_
    exact m_lret C w dX3_numberFor_69 (by omega) (by omega) (⟨by simp [nw], rfl⟩)
set_option maxRecDepth 100000 in
set_option maxHeartbeats 4000000 in
theorem c_newPiece (l : Launch) (D : va_G) (y : mY) (S0 : Nat) (M F : mp) (h0 : Nat) (A : Ad) (tr : Nat → Nat) (f : Nat → Nat → Int64) (g : Nat → Nat → Option Nat) (S : St) (hC : CW y h0 A tr f g S M) (c0 : Nat) (hI : Inv c0 S) (hR : CR A f g S) (j : Nat) (hj : j < 5) : ct l yX3_newPiece wsX3_newPiece 3 62 1 3 D y S0 M F [.ref h0, .int (nI j)] (fun v M' => ∃ A', v = some (va_rf (th A' 10 (mkPj S j).1)) ∧ CW y h0 A' tr f g (mkPj S j).2 M' ∧ CR A' f g (mkPj S j).2) := by
  refine ct_of cX3_newPiece 2 (some (.object "BeadBench$Piece")) [(0, .ref h0), (1, .int (nI j))] (by decide +kernel) rfl (Nat.le_of_ble_eq_true rfl) rfl ?_
  intro p e s m below meth c ls C hnm hl w
  have hx := C.1
  have hb := C.2.1
  have hi_X1 : ∀ w ∈ u_ws RX1 TX1 3, w ∈ wsX3_newPiece := by decide +kernel
  have hi_X3 : ∀ w ∈ u_ws RX3 TX3 7, w ∈ wsX3_newPiece := by decide +kernel
  refine lv_iload_n hx hb dX3_newPiece_0 rfl (lv_at hl 1 rfl) ?_
  refine lv_if_ne (tgt := 6) hx hb dX3_newPiece_1 (by decide) (fun c_1 => ?_) (fun c_1 => ?_)
  · skip
    have n_1 : ¬ j = 0 := fun h => absurd ((nI_eq (by omega) (by omega)).mpr h) c_1
    refine lv_aload_n hx hb dX3_newPiece_6 rfl (lv_at hl 0 rfl) ?_
    refine lv_dup hx hb dX3_newPiece_7 rfl ?_
    refine m_get C w hC.1.1 (index := 36) (T := TX3) (N := 7) rfl hi_X3 6 (by decide) (by decide +kernel) rfl dX3_newPiece_8 ?_
    refine lv_iconst (v := 1) hx hb dX3_newPiece_11 (by decide) ?_
    refine lv_iadd hx hb dX3_newPiece_12 ?_
    refine m_topi (y := nI ((sP S) + 1)) (by first | exact nI_add _ _ | exact nI_1 _) ?_
    refine m_put C w hC.1.1 (v := .int (nI ((sP S) + 1))) (index := 36) (T := TX3) (N := 7) rfl hi_X3 tyX3 tyX3_ok nmX3 6 (by decide) (by decide +kernel) rfl (tyX3_ok 6 (by decide)) rfl rfl (Nat.le_of_ble_eq_true rfl) dX3_newPiece_13 (fun H locs w => ?_)
    obtain ⟨M1, e_M1⟩ : ∃ z, z = mu M h0 (eO 2 [.ref (xN A), .ref (xT A), .ref (xB A), va_rf ((sB S).map (xr A)), .ref (xY A), .int (nI (sI S)), .int (nI ((sP S) + 1))]) := ⟨_, rfl⟩
    have w : mS D S0 M1 F s H locs := by rw [e_M1]; exact w
    have f1_h0 : M1 h0 = some (eO 2 [.ref (xN A), .ref (xT A), .ref (xB A), va_rf ((sB S).map (xr A)), .ref (xY A), .int (nI (sI S)), .int (nI ((sP S) + 1))]) := by rw [e_M1]; exact mu_s
    refine m_new C w 1 [.int 0, .int 0, .int 0] (T := TX1) (N := 3) rfl hi_X1 tyX1 tyX1_ok (by decide +kernel) (by decide +kernel) (by decide +kernel) (by intro j hj; rcases (show j = 0 ∨ j = 1 ∨ j = 2 by omega) with rfl | rfl | rfl <;> rfl) (Nat.le_of_ble_eq_true rfl) (Nat.le_of_ble_eq_true rfl) dX3_newPiece_16 (fun q H hMq hFq w => ?_)
    obtain ⟨M2, e_M2⟩ : ∃ z, z = mu M1 q (eO 1 [.int 0, .int 0, .int 0]) := ⟨_, rfl⟩
    have w : mS D S0 M2 F s H locs := by rw [e_M2]; exact w
    have f2_h0 : M2 h0 = some (eO 2 [.ref (xN A), .ref (xT A), .ref (xB A), va_rf ((sB S).map (xr A)), .ref (xY A), .int (nI (sI S)), .int (nI ((sP S) + 1))]) := by rw [e_M2]; exact mu_k (m_fr f1_h0 hMq) f1_h0
    have f2_q : M2 q = some (eO 1 [.int 0, .int 0, .int 0]) := by rw [e_M2]; exact mu_s
    refine lv_dup hx hb dX3_newPiece_19 rfl ?_
    refine lv_iconst (v := 2) hx hb dX3_newPiece_20 (by decide) ?_
    refine lv_iload_n hx hb dX3_newPiece_21 rfl (lv_at hl 1 rfl) ?_
    refine lv_iadd hx hb dX3_newPiece_22 ?_
    refine m_topi (y := nI (2 + j)) (by first | exact nI_add _ _ | exact nI_1 _) ?_
    refine lv_iconst (v := 1) hx hb dX3_newPiece_23 (by decide) ?_
    refine lv_isub hx hb dX3_newPiece_24 ?_
    refine m_topi (y := nI (j + 1)) (by rw [show (1 : Int32) = nI 1 from rfl, pk_sub (by omega)]; congr 1; omega) ?_
    refine lv_aload_n hx hb dX3_newPiece_25 rfl (lv_at hl 0 rfl) ?_
    refine m_get C w f2_h0 (index := 36) (T := TX3) (N := 7) rfl hi_X3 6 (by decide) (by decide +kernel) rfl dX3_newPiece_26 ?_
    refine m_callI C w hl.1 (As := [.int (nI (j + 1)), .int (nI ((sP S) + 1))]) (rest := [.ref q]) (c_Piece_init l D y S0 M2 F q 0 0 0 f2_q (nI (j + 1)) (nI (sP S + 1))) ggX3_newPiece_X1_init rfl (by decide +kernel) (by decide +kernel) (by decide +kernel) rfl (show (_ ≠ _ ∧ _ ≠ _ ∧ _ = some 2) by decide +kernel) ⟨Nat.le_of_ble_eq_true rfl, Nat.le_of_ble_eq_true rfl⟩ rfl (Nat.le_of_ble_eq_true rfl) dX3_newPiece_29 ⟨Nat.le_of_ble_eq_true rfl, Nat.le_of_ble_eq_true rfl⟩ (fun v M1 H locs hq w => ?_)
    obtain ⟨rfl, hM3⟩ := hq
    obtain ⟨M3, e_M3⟩ : ∃ z, z = M1 := ⟨_, rfl⟩
    rw [← e_M3] at w hM3
    clear e_M3
    refine W.eq (g2 := F0 m 32 ls [.ref q]) rfl ?_
    exact m_aret (v := some q) C w dX3_newPiece_32 (by omega) (by omega) (by
      have hP5 := hI.2.1
      have hc5 := hI.2.2.1
      have nq : q ≠ h0 := fun e => by rw [e, e_M1, mu_s] at hMq; cases hMq
      have hq0 : M q = none := by rw [e_M1, mu_n nq] at hMq; exact hMq
      have hmj : mkPj S j = (lN (sP S + 1), wPc S (sP S + 1) (va_up (sS S) (sP S + 1) j)) := by unfold mkPj; rw [if_neg n_1]
      have e9 : M3 = mu (mu M q (eO 1 [.int (nI (j + 1)), .int (nI (sP S + 1)), .int 0])) h0 (eO 2 (bF A (wPc S (sP S + 1) (va_up (sS S) (sP S + 1) j)))) := by
        rw [hM3, e_M2, e_M1]
        funext a
        unfold mu
        by_cases a1 : a = q
        · rw [if_pos a1, if_neg (fun z => nq (a1.symm.trans z)), if_pos a1]
        · rw [if_neg a1, if_neg a1, if_neg a1]
          by_cases a2 : a = h0
          · rw [if_pos a2, if_pos a2]; rfl
          · rw [if_neg a2, if_neg a2]
      rw [hmj]
      refine ⟨adPc A (sP S + 1) q, ?_, ?_, hR.piece hI q j⟩
      · have h1 : th (adPc A (sP S + 1) q) 10 (lN (sP S + 1)) = some q := by
          unfold th
          rw [if_neg (by omega), if_neg (lN_ne (by omega) (by omega)), if_neg (lN_nn (by omega)), lN_pN (by omega)]
          exact congrArg some va_ups
        rw [h1]
      · rw [e9]
        exact (hC.mono (mle_new hq0)).piece hI mu_s (fun k k1 k2 => m_fr (hC.1.2.2.2.2.2.2.1 k k1 k2) hq0))
  · skip
    have n_1 : j = 0 := (nI_eq (by omega) (by omega)).mp (by first | exact c_1 | exact Classical.not_not.mp c_1)
    refine lv_null hx hb dX3_newPiece_4 ?_
    exact m_aret (v := none) C w dX3_newPiece_5 (by omega) (by omega) (by
      have hmj : mkPj S j = (0, S) := by unfold mkPj; rw [if_pos n_1]
      rw [hmj]
      exact ⟨A, rfl, hC, hR⟩)
set_option maxRecDepth 100000 in
set_option maxHeartbeats 4000000 in
theorem c_thingFor (l : Launch) (D : va_G) (y : mY) (S0 : Nat) (M F : mp) (h0 : Nat) (A : Ad) (tr : Nat → Nat) (f : Nat → Nat → Int64) (g : Nat → Nat → Option Nat) (S : St) (hC : CW y h0 A tr f g S M) (c0 : Nat) (hI : Inv c0 S) (hR : CR A f g S) (k : Nat) (hk2 : 2 ≤ k) (hk13 : k ≤ 13) (v1 : Int32) : ct l yX3_thingFor wsX3_thingFor 4 83 1 3 D y S0 M F [.ref h0, .int (nI k), .int v1] (fun v M' => ∃ A', v = some (va_rf (th A' k (thg S k v1).1)) ∧ CW y h0 A' tr f g (thg S k v1).2 M' ∧ CR A' f g (thg S k v1).2) := by
  refine ct_of cX3_thingFor 3 (some (.object "BeadBench$Thing")) [(0, .ref h0), (1, .int (nI k)), (2, .int v1)] (by decide +kernel) rfl (Nat.le_of_ble_eq_true rfl) rfl ?_
  intro p e s m below meth c ls C hnm hl w
  have hx := C.1
  have hb := C.2.1
  have hi_X0 : ∀ w ∈ u_ws RX0 TX0 5, w ∈ wsX3_thingFor := by decide +kernel
  have hi_X3 : ∀ w ∈ u_ws RX3 TX3 7, w ∈ wsX3_thingFor := by decide +kernel
  refine lv_iload_n hx hb dX3_thingFor_0 rfl (lv_at hl 1 rfl) ?_
  refine lv_bipush (v := 13) hx hb dX3_thingFor_1 (by decide) ?_
  refine lv_icmp_ne (tgt := 38) hx hb dX3_thingFor_3 (by decide) (fun c_3 => ?_) (fun c_3 => ?_)
  · skip
    have n_3 : ¬ k = 13 := fun h => absurd ((nI_eq (by omega) (by omega)).mpr h) c_3
    refine lv_iload_n hx hb dX3_thingFor_38 rfl (lv_at hl 1 rfl) ?_
    refine lv_bipush (v := 10) hx hb dX3_thingFor_39 (by decide) ?_
    refine lv_icmp_lt (tgt := 56) hx hb dX3_thingFor_41 (by decide) (fun c_41 => ?_) (fun c_41 => ?_)
    · skip
      have n_41 : k < 10 := (nI_ltI (by omega) (by omega)).mp c_41
      refine lv_null hx hb dX3_thingFor_56 ?_
      exact m_aret (v := none) C w dX3_thingFor_57 (by omega) (by omega) (by
        have hT : thg S k v1 = (nw k v1, S) := by
          unfold thg
          rw [if_pos (by unfold isN; simp; omega)]
        rw [hT]
        exact ⟨A, by rw [th_9 (by omega)], hC, hR⟩)
    · skip
      have n_41 : ¬ k < 10 := fun h => absurd ((nI_ltI (by omega) (by omega)).mpr h) c_41
      refine lv_aload_n hx hb dX3_thingFor_44 rfl (lv_at hl 0 rfl) ?_
      refine lv_iload_n hx hb dX3_thingFor_45 rfl (lv_at hl 2 rfl) ?_
      refine lv_iconst (v := 5) hx hb dX3_thingFor_46 (by decide) ?_
      refine m_callS C w hl.1 (As := [.int v1, .int 5]) (rest := [.ref h0]) (c_floorMod l D y S0 M F v1 5 (by omega) (by omega)) ggX3_thingFor_J9_floorMod_7cf53 rfl (by decide +kernel) (by decide +kernel) (by decide +kernel) (show (_ ≠ _ ∧ _ ≠ _ ∧ _ = some 2) by decide +kernel) ⟨Nat.le_of_ble_eq_true rfl, Nat.le_of_ble_eq_true rfl⟩ rfl (Nat.le_of_ble_eq_true rfl) dX3_thingFor_47 ⟨Nat.le_of_ble_eq_true rfl, Nat.le_of_ble_eq_true rfl⟩ (fun v M1 H locs hq w => ?_)
      obtain ⟨rfl, hM1⟩ := hq
      rw [hM1] at w
      clear hM1 M1
      refine W.eq (g2 := F0 m 50 ls [.int (nI (fmd v1 5)), .ref h0]) rfl ?_
      refine m_callV C w hl.1 (As := [.int (nI (fmd v1 5))]) (rest := []) (c_newPiece l D y S0 M F h0 A tr f g S hC c0 hI hR (fmd v1 5) (fmd_lt v1 (by omega))) gX3_thingFor_X3_newPiece rfl hC.1.1 (T := TX3) (N := 7) rfl (show (_ = _ ∧ _ ≠ _ ∧ _ ≠ _ ∧ _ = some 1) by decide +kernel) ⟨Nat.le_of_ble_eq_true rfl, Nat.le_of_ble_eq_true rfl⟩ rfl (Nat.le_of_ble_eq_true rfl) dX3_thingFor_50 ⟨Nat.le_of_ble_eq_true rfl, Nat.le_of_ble_eq_true rfl⟩ (fun v M1 H locs hq w => ?_)
      obtain ⟨A1, rfl, hC1, hR1⟩ := hq
      refine W.eq (g2 := F0 m 53 ls [va_rf (th A1 10 (mkPj S (fmd v1 5)).1)]) rfl ?_
      refine lv_goto (tgt := 57) hx hb dX3_thingFor_53 (by decide) ?_
      exact m_aret (v := th A1 10 (mkPj S (fmd v1 5)).1) C w dX3_thingFor_57 (by omega) (by omega) (by
        have hT : thg S k v1 = mkPj S (fmd v1 5) := by
          unfold thg
          rw [if_neg (by unfold isN; simp; omega), if_neg n_3]
          rfl
        rw [hT]
        exact ⟨A1, by rw [th_k (show 10 ≤ k by omega)], hC1, hR1⟩)
  · skip
    have n_3 : k = 13 := (nI_eq (by omega) (by omega)).mp (by first | exact c_3 | exact Classical.not_not.mp c_3)
    refine lv_iload_n hx hb dX3_thingFor_6 rfl (lv_at hl 2 rfl) ?_
    refine m_callS C w hl.1 (As := [.int v1]) (rest := []) (c_isTray l D y S0 M F v1) ggX3_thingFor_X3_isTray rfl (by decide +kernel) (by decide +kernel) (by decide +kernel) (show (_ ≠ _ ∧ _ ≠ _ ∧ _ = some 1) by decide +kernel) ⟨Nat.le_of_ble_eq_true rfl, Nat.le_of_ble_eq_true rfl⟩ rfl (Nat.le_of_ble_eq_true rfl) dX3_thingFor_7 ⟨Nat.le_of_ble_eq_true rfl, Nat.le_of_ble_eq_true rfl⟩ (fun v M1 H locs hq w => ?_)
    obtain ⟨rfl, hM1⟩ := hq
    rw [hM1] at w
    clear hM1 M1
    refine W.eq (g2 := F0 m 10 ls [.int (bI (inP v1 12))]) rfl ?_
    refine lv_if_eq (tgt := 36) hx hb dX3_thingFor_10 (by decide) (fun c_10 => ?_) (fun c_10 => ?_)
    · skip
      have n_10 : (inP v1 12) = false := bI_f c_10
      refine lv_null hx hb dX3_thingFor_36 ?_
      exact m_aret (v := none) C w dX3_thingFor_37 (by omega) (by omega) (by
        have hT : thg S k v1 = (0, S) := by
          unfold thg
          rw [if_neg (by rw [n_3]; decide), if_pos n_3, if_neg (by first | (rw [et, cN_nI (by omega)]; simp [n_24]; done) | (simp [n_10]; done))]
        rw [hT]
        refine ⟨A, ?_, hC, hR⟩
        have h1 : th A k 0 = none := by
          unfold th
          rw [if_neg (by omega), if_pos rfl]
        rw [h1])
    · skip
      have n_10 : (inP v1 12) = true := bI_t c_10
      obtain ⟨t, ht, et⟩ := inP_t (by decide) n_10
      obtain ⟨tk, na, ta, hq0, -, hrow⟩ := hC.1.tray hI ht
      have hk0 := (hI.2.2.2.2.2.2.1 t ht).1
      refine lv_aload_n hx hb dX3_thingFor_13 rfl (lv_at hl 0 rfl) ?_
      refine m_get C w hC.1.1 (index := 18) (T := TX3) (N := 7) rfl hi_X3 1 (by decide) (by decide +kernel) rfl dX3_thingFor_14 ?_
      refine lv_iload_n hx hb dX3_thingFor_17 rfl (lv_at hl 2 rfl) ?_
      refine m_topi (y := nI t) et ?_
      refine m_hald C w hC.1.2.2.1 t rfl (by omega) (by omega) dX3_thingFor_18 ?_
      refine m_getN C w hq0 (index := 43) (host := "BeadBench") (T := TX0) (N := 5) rfl hi_X0 0 (by decide) (by decide +kernel) rfl dX3_thingFor_19 ?_
      refine lv_bipush (v := 6) hx hb dX3_thingFor_22 (by decide) ?_
      refine lv_icmp_ne (tgt := 36) hx hb dX3_thingFor_24 (by decide) (fun c_24 => ?_) (fun c_24 => ?_)
      · skip
        have n_24 : ¬ (sH S t) = 6 := fun h => absurd ((nI_eq (by omega) (by omega)).mpr h) c_24
        refine lv_null hx hb dX3_thingFor_36 ?_
        exact m_aret (v := none) C w dX3_thingFor_37 (by omega) (by omega) (by
          have hT : thg S k v1 = (0, S) := by
            unfold thg
            rw [if_neg (by rw [n_3]; decide), if_pos n_3, if_neg (by first | (rw [et, cN_nI (by omega)]; simp [n_24]; done) | (simp [n_10]; done))]
          rw [hT]
          refine ⟨A, ?_, hC, hR⟩
          have h1 : th A k 0 = none := by
            unfold th
            rw [if_neg (by omega), if_pos rfl]
          rw [h1])
      · skip
        have n_24 : (sH S t) = 6 := (nI_eq (by omega) (by omega)).mp (by first | exact c_24 | exact Classical.not_not.mp c_24)
        refine lv_aload_n hx hb dX3_thingFor_27 rfl (lv_at hl 0 rfl) ?_
        refine m_get C w hC.1.1 (index := 18) (T := TX3) (N := 7) rfl hi_X3 1 (by decide) (by decide +kernel) rfl dX3_thingFor_28 ?_
        refine lv_iload_n hx hb dX3_thingFor_31 rfl (lv_at hl 2 rfl) ?_
        refine m_topi (y := nI t) et ?_
        refine m_hald C w hC.1.2.2.1 t rfl (by omega) (by omega) dX3_thingFor_32 ?_
        refine lv_goto (tgt := 37) hx hb dX3_thingFor_33 (by decide) ?_
        exact m_aret (v := some (tr t)) C w dX3_thingFor_37 (by omega) (by omega) (by
          have hb1 := hI.1
          have hb2 := hI.2.2.1
          obtain ⟨hr, e1, -, etr, -, -⟩ := hrow (by omega)
          have hT : thg S k v1 = (-1 - lN (rowT S t), S) := by
            unfold thg
            rw [if_neg (by rw [n_3]; decide), if_pos n_3, et, cN_nI (by omega), if_pos (by simp [inP_nI (show t < 12 by omega) (by decide), n_24]), e1, nI_l (by omega)]
          rw [hT]
          refine ⟨A, ?_, hC, hR⟩
          have h1 : th A k (-1 - lN (rowT S t)) = some (tr t) := by
            unfold th
            rw [if_neg (by omega), if_neg (neg_ne (by omega)), if_pos (neg_lt (by omega)), neg_rN (by omega), etr]
          rw [h1])
set_option maxRecDepth 100000 in
set_option maxHeartbeats 4000000 in
theorem c_put (l : Launch) (D : va_G) (y : mY) (S0 : Nat) (M F : mp) (h0 : Nat) (A : Ad) (tr : Nat → Nat) (f : Nat → Nat → Int64) (g : Nat → Nat → Option Nat) (S : St) (hC : CW y h0 A tr f g S M) (c0 : Nat) (hI : Inv c0 S) (hR : CR A f g S) (hc0 : c0 + 1 ≤ 512) (t1 i1 v1 : Int32) : ct l yX3_put wsX3_put 5 105 1 3 D y S0 M F [.ref h0, .int t1, .int i1, .int v1] (fun v M' => v = some (.int (sp_put S t1 i1 v1).1) ∧ RC y h0 (sp_put S t1 i1 v1).2 M') := by
  refine ct_of cX3_put 7 (some .int) [(0, .ref h0), (1, .int t1), (2, .int i1), (3, .int v1)] (by decide +kernel) rfl (Nat.le_of_ble_eq_true rfl) rfl ?_
  intro p e s m below meth c ls C hnm hl w
  have hx := C.1
  have hb := C.2.1
  have hi_X0 : ∀ w ∈ u_ws RX0 TX0 5, w ∈ wsX3_put := by decide +kernel
  have hi_X3 : ∀ w ∈ u_ws RX3 TX3 7, w ∈ wsX3_put := by decide +kernel
  refine lv_iload_n hx hb dX3_put_0 rfl (lv_at hl 1 rfl) ?_
  refine m_callS C w hl.1 (As := [.int t1]) (rest := []) (c_isTray l D y S0 M F t1) ggX3_put_X3_isTray rfl (by decide +kernel) (by decide +kernel) (by decide +kernel) (show (_ ≠ _ ∧ _ ≠ _ ∧ _ = some 1) by decide +kernel) ⟨Nat.le_of_ble_eq_true rfl, Nat.le_of_ble_eq_true rfl⟩ rfl (Nat.le_of_ble_eq_true rfl) dX3_put_1 ⟨Nat.le_of_ble_eq_true rfl, Nat.le_of_ble_eq_true rfl⟩ (fun v M1 H locs hq w => ?_)
  obtain ⟨rfl, hM1⟩ := hq
  rw [hM1] at w
  clear hM1 M1
  refine W.eq (g2 := F0 m 4 ls [.int (bI (inP t1 12))]) rfl ?_
  refine lv_if_ne (tgt := 10) hx hb dX3_put_4 (by decide) (fun c_4 => ?_) (fun c_4 => ?_)
  · skip
    have n_4 : (inP t1 12) = true := bI_t c_4
    obtain ⟨t, ht, et⟩ := inP_t (by decide) n_4
    obtain ⟨tk, na, ta, hq0, -, -⟩ := hC.1.tray hI ht
    have hk13 := (hI.2.2.2.2.2.2.1 t ht).1
    have hk : sH S t < 14 := by omega
    have hz := zT_le hI ht
    have hm0 : sp_put S t1 i1 v1 = if sH S t < 2 then (fR (sH S t), S) else put1 (thg S (sH S t) v1).2 t i1 (thg S (sH S t) v1).1 := by unfold sp_put; rw [if_neg (by simp [n_4]), et, cN_nI (by omega)]
    refine lv_aload_n hx hb dX3_put_10 rfl (lv_at hl 0 rfl) ?_
    refine m_get C w hC.1.1 (index := 18) (T := TX3) (N := 7) rfl hi_X3 1 (by decide) (by decide +kernel) rfl dX3_put_11 ?_
    refine lv_iload_n hx hb dX3_put_14 rfl (lv_at hl 1 rfl) ?_
    refine m_topi (y := nI t) et ?_
    refine m_hald C w hC.1.2.2.1 t rfl (by omega) (by omega) dX3_put_15 ?_
    refine lv_astore (lv' := [(4, .ref (tr t)), (0, .ref h0), (1, .int t1), (2, .int i1), (3, .int v1)]) hx hb dX3_put_16 hl (by decide) rfl (fun ls hl => ?_)
    refine lv_aload hx hb dX3_put_18 (lv_at hl 0 rfl) ?_
    refine m_callV C w hl.1 (As := []) (rest := []) (c_Hold_refusal l D y S0 M F (tr t) (sH S t) (zT S t) tk na ta hq0 hk hz) gX3_put_X0_refusal rfl hq0 (T := TX0) (N := 5) rfl (show (_ = _ ∧ _ ≠ _ ∧ _ ≠ _ ∧ _ = some 0) by decide +kernel) ⟨Nat.le_of_ble_eq_true rfl, Nat.le_of_ble_eq_true rfl⟩ rfl (Nat.le_of_ble_eq_true rfl) dX3_put_20 ⟨Nat.le_of_ble_eq_true rfl, Nat.le_of_ble_eq_true rfl⟩ (fun v M1 H locs hq w => ?_)
    obtain ⟨rfl, hM1⟩ := hq
    rw [hM1] at w
    clear hM1 M1
    refine W.eq (g2 := F0 m 23 ls [.int (fR (sH S t))]) rfl ?_
    refine lv_istore (lv' := [(5, .int (fR (sH S t))), (4, .ref (tr t)), (0, .ref h0), (1, .int t1), (2, .int i1), (3, .int v1)]) hx hb dX3_put_23 hl (by decide) rfl (fun ls hl => ?_)
    refine lv_iload hx hb dX3_put_25 (lv_at hl 0 rfl) ?_
    refine lv_if_eq (tgt := 33) hx hb dX3_put_27 (by decide) (fun c_27 => ?_) (fun c_27 => ?_)
    · skip
      have h2 : 2 ≤ sH S t := fR_0.mp c_27
      rw [if_neg (by omega)] at hm0
      refine lv_aload_n hx hb dX3_put_33 rfl (lv_at hl 2 rfl) ?_
      refine lv_aload hx hb dX3_put_34 (lv_at hl 1 rfl) ?_
      refine m_getN C w hq0 (index := 43) (host := "BeadBench") (T := TX0) (N := 5) rfl hi_X0 0 (by decide) (by decide +kernel) rfl dX3_put_36 ?_
      refine lv_iload_n hx hb dX3_put_39 rfl (lv_at hl 5 rfl) ?_
      refine m_callV C w hl.1 (As := [.int (nI (sH S t)), .int v1]) (rest := []) (c_thingFor l D y S0 M F h0 A tr f g S hC c0 hI hR (sH S t) h2 hk13 v1) gX3_put_X3_thingFor rfl hC.1.1 (T := TX3) (N := 7) rfl (show (_ = _ ∧ _ ≠ _ ∧ _ ≠ _ ∧ _ = some 2) by decide +kernel) ⟨Nat.le_of_ble_eq_true rfl, Nat.le_of_ble_eq_true rfl⟩ rfl (Nat.le_of_ble_eq_true rfl) dX3_put_40 ⟨Nat.le_of_ble_eq_true rfl, Nat.le_of_ble_eq_true rfl⟩ (fun v M1 H locs hq w => ?_)
      obtain ⟨A1, rfl, hC1, hR1⟩ := hq
      obtain ⟨hI1, hval⟩ := inv_thg hI hc0 h2 hk13 v1
      have hH := thg_H S (sH S t) v1
      have hx2 : isN (sH S t) = true → (thg S (sH S t) v1).1 = nw (sH S t) v1 := fun h => by unfold thg; rw [if_pos h]
      obtain ⟨S2, eS2⟩ : ∃ z, z = (thg S (sH S t) v1).2 := ⟨_, rfl⟩
      obtain ⟨x2, ex2⟩ : ∃ z, z = (thg S (sH S t) v1).1 := ⟨_, rfl⟩
      rw [← eS2, ← ex2] at hm0 hval
      rw [← eS2] at hC1 hR1 hI1 hH
      rw [← ex2] at hx2 ⊢
      obtain ⟨eH, eO2, eN, eK, eZ, eC⟩ := hH
      have h22 : 2 ≤ sH S2 t := by rw [eH]; exact h2
      obtain ⟨tk1, na1, ta1, hq1, -, hrow⟩ := hC1.1.tray hI1 ht
      obtain ⟨hr, -, ekd, etr, rfl, rfl⟩ := hrow h22
      rw [show sH S2 t = sH S t from congrFun eH t] at hq1 ekd
      have hz2 := zT_le hI1 ht
      have hzR : zT S2 t = sZ S2 (rowT S2 t) := by unfold zT; rw [if_pos h22]
      have hna : M1 (xn A1 (rowT S2 t + 1)) = some (eL y (zT S2 t) (f (rowT S2 t + 1))) := by rw [hzR]; exact hC1.2.1.1 _ hr
      have hta : M1 (xt A1 (rowT S2 t + 1)) = some (eT y (zT S2 t) (g (rowT S2 t + 1))) := by rw [hzR]; exact hC1.2.1.2.1 _ hr
      refine W.eq (g2 := F0 m 43 ls [va_rf (th A1 (sH S t) x2)]) rfl ?_
      refine mq_astore (lv' := [(6, va_rf (th A1 (sH S t) x2)), (5, .int (fR (sH S t))), (4, .ref (tr t)), (0, .ref h0), (1, .int t1), (2, .int i1), (3, .int v1)]) hx hb dX3_put_43 hl (by decide) rfl (fun ls hl => ?_)
      refine lv_aload hx hb dX3_put_45 (lv_at hl 2 rfl) ?_
      refine lv_iload_n hx hb dX3_put_47 rfl (lv_at hl 5 rfl) ?_
      refine m_callV C w hl.1 (As := [.int i1]) (rest := []) (c_Hold_hasPlace l D y S0 M1 F (tr t) (sH S t) (zT S2 t) tk1 (xn A1 (rowT S2 t + 1)) (xt A1 (rowT S2 t + 1)) hq1 hk hz2 i1) gX3_put_X0_hasPlace rfl hq1 (T := TX0) (N := 5) rfl (show (_ = _ ∧ _ ≠ _ ∧ _ ≠ _ ∧ _ = some 1) by decide +kernel) ⟨Nat.le_of_ble_eq_true rfl, Nat.le_of_ble_eq_true rfl⟩ rfl (Nat.le_of_ble_eq_true rfl) dX3_put_48 ⟨Nat.le_of_ble_eq_true rfl, Nat.le_of_ble_eq_true rfl⟩ (fun v M1 H locs hq w => ?_)
      obtain ⟨rfl, hM1⟩ := hq
      rw [hM1] at w
      clear hM1 M1
      refine W.eq (g2 := F0 m 51 ls [.int (bI (inP i1 (zT S2 t)))]) rfl ?_
      refine lv_if_ne (tgt := 57) hx hb dX3_put_51 (by decide) (fun c_51 => ?_) (fun c_51 => ?_)
      · skip
        have n_51 : (inP i1 (zT S2 t)) = true := bI_t c_51
        obtain ⟨i, hi, ei⟩ := inP_t (by omega) n_51
        refine lv_aload hx hb dX3_put_57 (lv_at hl 2 rfl) ?_
        refine mq_aload hx hb dX3_put_59 (lv_at hl 0 rfl) ?_
        refine m_callV C w hl.1 (As := [va_rf (th A1 (sH S t) x2)]) (rest := []) (c_Hold_accepts l D y S0 M1 F (tr t) (sH S t) (zT S2 t) tk1 (xn A1 (rowT S2 t + 1)) (xt A1 (rowT S2 t + 1)) hq1 hk hz2 (th A1 (sH S t) x2) _ (th_srt hI1 hC1.1 hval)) gX3_put_X0_accepts rfl hq1 (T := TX0) (N := 5) rfl (show (_ = _ ∧ _ ≠ _ ∧ _ ≠ _ ∧ _ = some 1) by decide +kernel) ⟨Nat.le_of_ble_eq_true rfl, Nat.le_of_ble_eq_true rfl⟩ rfl (Nat.le_of_ble_eq_true rfl) dX3_put_61 ⟨Nat.le_of_ble_eq_true rfl, Nat.le_of_ble_eq_true rfl⟩ (fun v M1 H locs hq w => ?_)
        obtain ⟨rfl, hM1⟩ := hq
        rw [hM1] at w
        clear hM1 M1
        refine W.eq (g2 := F0 m 64 ls [.int (bI (acc (sH S t) (srt S2 (sH S t) x2)))]) rfl ?_
        refine lv_if_ne (tgt := 70) hx hb dX3_put_64 (by decide) (fun c_64 => ?_) (fun c_64 => ?_)
        · skip
          have n_64 : (acc (sH S t) (srt S2 (sH S t) x2)) = true := bI_t c_64
          refine lv_aload hx hb dX3_put_70 (lv_at hl 2 rfl) ?_
          refine m_getN C w hq1 (index := 61) (host := "BeadBench") (T := TX0) (N := 5) rfl hi_X0 3 (by decide) (by decide +kernel) rfl dX3_put_72 ?_
          refine lv_iload_n hx hb dX3_put_75 rfl (lv_at hl 5 rfl) ?_
          refine m_topi (y := nI i) ei ?_
          refine lv_aload hx hb dX3_put_76 (lv_at hl 2 rfl) ?_
          refine m_callV C w hl.1 (As := []) (rest := [.int (nI i), .ref (xn A1 (rowT S2 t + 1))]) (c_Hold_isN l D y S0 M1 F (tr t) (sH S t) (zT S2 t) tk1 (xn A1 (rowT S2 t + 1)) (xt A1 (rowT S2 t + 1)) hq1 hk hz2) gX3_put_X0_isOfNumbers rfl hq1 (T := TX0) (N := 5) rfl (show (_ = _ ∧ _ ≠ _ ∧ _ ≠ _ ∧ _ = some 0) by decide +kernel) ⟨Nat.le_of_ble_eq_true rfl, Nat.le_of_ble_eq_true rfl⟩ rfl (Nat.le_of_ble_eq_true rfl) dX3_put_78 ⟨Nat.le_of_ble_eq_true rfl, Nat.le_of_ble_eq_true rfl⟩ (fun v M1 H locs hq w => ?_)
          obtain ⟨rfl, hM1⟩ := hq
          rw [hM1] at w
          clear hM1 M1
          refine W.eq (g2 := F0 m 81 ls [.int (bI (isN (sH S t))), .int (nI i), .ref (xn A1 (rowT S2 t + 1))]) rfl ?_
          refine lv_if_eq (tgt := 96) hx hb dX3_put_81 (by decide) (fun c_81 => ?_) (fun c_81 => ?_)
          · skip
            have n_81 : (isN (sH S t)) = false := bI_f c_81
            refine lv_lconst (v := 0) hx hb dX3_put_96 (by decide) ?_
            obtain ⟨vx, evx⟩ : ∃ z : Int64, z = 0 := ⟨_, rfl⟩
            refine m_topl (y := vx) evx.symm ?_
            have hvx : vx = nu (sH S t) x2 := by rw [evx]; unfold nu; rw [if_neg (by have := isN_f n_81 h2; omega)]
            refine m_last C w hna i rfl (by omega) (by omega) dX3_put_97 (fun H locs w => ?_)
            obtain ⟨M2, e_M2⟩ : ∃ z, z = mu M1 (xn A1 (rowT S2 t + 1)) (eL y (zT S2 t) (va_up (f (rowT S2 t + 1)) i vx)) := ⟨_, rfl⟩
            have w : mS D S0 M2 F s H locs := by rw [e_M2]; exact w
            have hq2 : M2 (tr t) = some (eO 0 (hF (sH S t) (zT S2 t) tk1 (xn A1 (rowT S2 t + 1)) (xt A1 (rowT S2 t + 1)))) := by rw [e_M2]; exact mu_k (m_ne hq1 hna ne_OA) hq1
            have hta2 : M2 (xt A1 (rowT S2 t + 1)) = some (eT y (zT S2 t) (g (rowT S2 t + 1))) := by rw [e_M2]; exact mu_k (m_ne hta hna ne_TL) hta
            refine lv_aload hx hb dX3_put_98 (lv_at hl 2 rfl) ?_
            refine m_getN C w hq2 (index := 73) (host := "BeadBench") (T := TX0) (N := 5) rfl hi_X0 4 (by decide) (by decide +kernel) rfl dX3_put_100 ?_
            refine lv_iload_n hx hb dX3_put_103 rfl (lv_at hl 5 rfl) ?_
            refine m_topi (y := nI i) ei ?_
            refine mq_aload hx hb dX3_put_104 (lv_at hl 0 rfl) ?_
            have hth : ∀ z, th A1 (sH S t) x2 = some z → isTh A1 S2 z := fun z hz => th_ok hI1 hC1.1 hval z hz
            refine m_tast C w hta2 (v := th A1 (sH S t) x2) (fun z hz => ?_) i rfl (by omega) (by omega) dX3_put_106 (fun H locs w => ?_)
            · rw [e_M2]
              rcases hC1.1.th (hth z hz) with ⟨vs, q⟩ | ⟨vs, q⟩
              · exact Or.inl ⟨vs, mu_k (m_ne q hna ne_OA) q⟩
              · exact Or.inr ⟨vs, mu_k (m_ne q hna ne_OA) q⟩
            have hC4 := hC1.set (a := rowT S2 t + 1) (i := i) (x := vx) (v := th A1 (sH S t) x2) hr (by rw [zz_s]; omega) hth
            rw [show zz S2 (rowT S2 t + 1) = zT S2 t from (zz_s _ _).trans hzR.symm, ← e_M2] at hC4
            refine lv_iconst (v := 1) hx hb dX3_put_107 (by decide) ?_
            exact m_iret C w dX3_put_108 (by omega) (by omega) (⟨by rw [hm0, (show put1 S2 t i1 x2 = (1, pRC S2 (rowT S2 t) i x2) by unfold put1; rw [if_neg (by rw [n_51]; decide), if_neg (by rw [congrFun eH t, ← acc_gs hI1 hval ⟨h2, hk13⟩ h2 (fun q => q.2 rfl), n_64]; decide), ei, cN_nI (by omega)])], by rw [hm0, (show put1 S2 t i1 x2 = (1, pRC S2 (rowT S2 t) i x2) by unfold put1; rw [if_neg (by rw [n_51]; decide), if_neg (by rw [congrFun eH t, ← acc_gs hI1 hval ⟨h2, hk13⟩ h2 (fun q => q.2 rfl), n_64]; decide), ei, cN_nI (by omega)])]; exact ⟨A1, tr, _, _, hC4, by rw [hvx, ← ekd]; exact hR1.set (rowT S2 t) i x2⟩⟩)
          · skip
            have n_81 : (isN (sH S t)) = true := bI_t c_81
            refine lv_aload hx hb dX3_put_84 (lv_at hl 2 rfl) ?_
            refine m_getN C w hq1 (index := 43) (host := "BeadBench") (T := TX0) (N := 5) rfl hi_X0 0 (by decide) (by decide +kernel) rfl dX3_put_86 ?_
            refine lv_iload_n hx hb dX3_put_89 rfl (lv_at hl 6 rfl) ?_
            refine m_callS C w hl.1 (As := [.int (nI (sH S t)), .int v1]) (rest := [.int (nI i), .ref (xn A1 (rowT S2 t + 1))]) (c_numberFor l D y S0 M1 F (sH S t) hk v1) ggX3_put_X3_numberFor rfl (by decide +kernel) (by decide +kernel) (by decide +kernel) (show (_ ≠ _ ∧ _ ≠ _ ∧ _ = some 2) by decide +kernel) ⟨Nat.le_of_ble_eq_true rfl, Nat.le_of_ble_eq_true rfl⟩ rfl (Nat.le_of_ble_eq_true rfl) dX3_put_90 ⟨Nat.le_of_ble_eq_true rfl, Nat.le_of_ble_eq_true rfl⟩ (fun v M1 H locs hq w => ?_)
            obtain ⟨rfl, hM1⟩ := hq
            rw [hM1] at w
            clear hM1 M1
            refine W.eq (g2 := F0 m 93 ls [.long (nw (sH S t) v1), .int (nI i), .ref (xn A1 (rowT S2 t + 1))]) rfl ?_
            refine lv_goto (tgt := 97) hx hb dX3_put_93 (by decide) ?_
            obtain ⟨vx, evx⟩ : ∃ z : Int64, z = nw (sH S t) v1 := ⟨_, rfl⟩
            refine m_topl (y := vx) evx.symm ?_
            have hvx : vx = nu (sH S t) x2 := by rw [evx]; unfold nu; rw [if_pos (isN_t n_81).2]; exact (hx2 n_81).symm
            refine m_last C w hna i rfl (by omega) (by omega) dX3_put_97 (fun H locs w => ?_)
            obtain ⟨M2, e_M2⟩ : ∃ z, z = mu M1 (xn A1 (rowT S2 t + 1)) (eL y (zT S2 t) (va_up (f (rowT S2 t + 1)) i vx)) := ⟨_, rfl⟩
            have w : mS D S0 M2 F s H locs := by rw [e_M2]; exact w
            have hq2 : M2 (tr t) = some (eO 0 (hF (sH S t) (zT S2 t) tk1 (xn A1 (rowT S2 t + 1)) (xt A1 (rowT S2 t + 1)))) := by rw [e_M2]; exact mu_k (m_ne hq1 hna ne_OA) hq1
            have hta2 : M2 (xt A1 (rowT S2 t + 1)) = some (eT y (zT S2 t) (g (rowT S2 t + 1))) := by rw [e_M2]; exact mu_k (m_ne hta hna ne_TL) hta
            refine lv_aload hx hb dX3_put_98 (lv_at hl 2 rfl) ?_
            refine m_getN C w hq2 (index := 73) (host := "BeadBench") (T := TX0) (N := 5) rfl hi_X0 4 (by decide) (by decide +kernel) rfl dX3_put_100 ?_
            refine lv_iload_n hx hb dX3_put_103 rfl (lv_at hl 5 rfl) ?_
            refine m_topi (y := nI i) ei ?_
            refine mq_aload hx hb dX3_put_104 (lv_at hl 0 rfl) ?_
            have hth : ∀ z, th A1 (sH S t) x2 = some z → isTh A1 S2 z := fun z hz => th_ok hI1 hC1.1 hval z hz
            refine m_tast C w hta2 (v := th A1 (sH S t) x2) (fun z hz => ?_) i rfl (by omega) (by omega) dX3_put_106 (fun H locs w => ?_)
            · rw [e_M2]
              rcases hC1.1.th (hth z hz) with ⟨vs, q⟩ | ⟨vs, q⟩
              · exact Or.inl ⟨vs, mu_k (m_ne q hna ne_OA) q⟩
              · exact Or.inr ⟨vs, mu_k (m_ne q hna ne_OA) q⟩
            have hC4 := hC1.set (a := rowT S2 t + 1) (i := i) (x := vx) (v := th A1 (sH S t) x2) hr (by rw [zz_s]; omega) hth
            rw [show zz S2 (rowT S2 t + 1) = zT S2 t from (zz_s _ _).trans hzR.symm, ← e_M2] at hC4
            refine lv_iconst (v := 1) hx hb dX3_put_107 (by decide) ?_
            exact m_iret C w dX3_put_108 (by omega) (by omega) (⟨by rw [hm0, (show put1 S2 t i1 x2 = (1, pRC S2 (rowT S2 t) i x2) by unfold put1; rw [if_neg (by rw [n_51]; decide), if_neg (by rw [congrFun eH t, ← acc_gs hI1 hval ⟨h2, hk13⟩ h2 (fun q => q.2 rfl), n_64]; decide), ei, cN_nI (by omega)])], by rw [hm0, (show put1 S2 t i1 x2 = (1, pRC S2 (rowT S2 t) i x2) by unfold put1; rw [if_neg (by rw [n_51]; decide), if_neg (by rw [congrFun eH t, ← acc_gs hI1 hval ⟨h2, hk13⟩ h2 (fun q => q.2 rfl), n_64]; decide), ei, cN_nI (by omega)])]; exact ⟨A1, tr, _, _, hC4, by rw [hvx, ← ekd]; exact hR1.set (rowT S2 t) i x2⟩⟩)
        · skip
          have n_64 : (acc (sH S t) (srt S2 (sH S t) x2)) = false := bI_f c_64
          refine lv_bipush (v := (-3)) hx hb dX3_put_67 (by decide) ?_
          exact m_iret C w dX3_put_69 (by omega) (by omega) (⟨by rw [hm0, (show put1 S2 t i1 x2 = (-3, S2) by unfold put1; rw [if_neg (by rw [n_51]; decide), if_pos (by rw [congrFun eH t, ← acc_gs hI1 hval ⟨h2, hk13⟩ h2 (fun q => q.2 rfl)]; exact n_64)])], by rw [hm0, (show put1 S2 t i1 x2 = (-3, S2) by unfold put1; rw [if_neg (by rw [n_51]; decide), if_pos (by rw [congrFun eH t, ← acc_gs hI1 hval ⟨h2, hk13⟩ h2 (fun q => q.2 rfl)]; exact n_64)])]; exact ⟨A1, tr, f, g, hC1, hR1⟩⟩)
      · skip
        have n_51 : (inP i1 (zT S2 t)) = false := bI_f c_51
        refine lv_bipush (v := (-4)) hx hb dX3_put_54 (by decide) ?_
        exact m_iret C w dX3_put_56 (by omega) (by omega) (⟨by rw [hm0, (show put1 S2 t i1 x2 = (-4, S2) by unfold put1; rw [if_pos n_51])], by rw [hm0, (show put1 S2 t i1 x2 = (-4, S2) by unfold put1; rw [if_pos n_51])]; exact ⟨A1, tr, f, g, hC1, hR1⟩⟩)
    · skip
      refine lv_iload hx hb dX3_put_30 (lv_at hl 0 rfl) ?_
      exact m_iret C w dX3_put_32 (by omega) (by omega) (⟨by rw [hm0, if_pos (by have := mt fR_0.mpr c_27; omega)], by rw [hm0, if_pos (by have := mt fR_0.mpr c_27; omega)]; exact ⟨A, tr, f, g, hC, hR⟩⟩)
  · skip
    have n_4 : (inP t1 12) = false := bI_f c_4
    refine lv_bipush (v := (-6)) hx hb dX3_put_7 (by decide) ?_
    exact m_iret C w dX3_put_9 (by omega) (by omega) (⟨by rw [(show sp_put S t1 i1 v1 = (-6, S) by unfold sp_put; rw [if_pos (by first | simp [n_4])])], by rw [(show sp_put S t1 i1 v1 = (-6, S) by unfold sp_put; rw [if_pos (by first | simp [n_4])])]; exact ⟨A, tr, f, g, hC, hR⟩⟩)
