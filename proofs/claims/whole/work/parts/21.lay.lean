/-- behind a new Holding: the old cells stand, the new ones are there -/
theorem new_hold {y : mY} {M M1 M3 : mp} {q qL qT n : Nat} {e0 e1 : va_E} (hMq : M q = none) (e1' : M1 = mu M q e0) (hqL : M1 qL = none) (hqT : M1 qT = none) (nLT : qL ≠ qT) (hM3 : M3 = mu (mu (mu M1 q e1) qL (eL y n (fun _ => 0))) qT (eT y n (fun _ => none))) : mle M M3 ∧ M3 q = some e1 ∧ M3 qL = some (eL y n (fun _ => 0)) ∧ M3 qT = some (eT y n (fun _ => none)) ∧ M qL = none ∧ M qT = none := by
  have nL : qL ≠ q := fun e => by rw [e, e1', mu_s] at hqL; cases hqL
  have nT : qT ≠ q := fun e => by rw [e, e1', mu_s] at hqT; cases hqT
  have mL : M qL = none := by rw [e1', mu_n nL] at hqL; exact hqL
  have mT : M qT = none := by rw [e1', mu_n nT] at hqT; exact hqT
  refine ⟨fun a x hx => ?_, ?_, ?_, ?_, mL, mT⟩
  · rw [hM3, mu_n (m_fr hx mT), mu_n (m_fr hx mL), mu_n (m_fr hx hMq), e1', mu_n (m_fr hx hMq)]; exact hx
  · rw [hM3, mu_n (Ne.symm nT), mu_n (Ne.symm nL), mu_s]
  · rw [hM3, mu_n nLT, mu_s]
  · rw [hM3, mu_s]
theorem inP_2 {w : Int32} (h0 : ¬ w = 0) (h1 : ¬ w = 1) : inP w 2 = false := by
  cases h : inP w 2 with
  | false => rfl
  | true =>
    obtain ⟨j, hj, rfl⟩ := inP_t (by decide) h
    rcases (show j = 0 ∨ j = 1 by omega) with rfl | rfl
    · exact absurd rfl h0
    · exact absurd rfl h1
theorem th_cases {c : Nat} {S : St} {A : Ad} (hI : Inv c S) {k : Nat} {x : Int64} (hv : val S k x) : (th A k x = none ∧ (k ≤ 9 ∨ x = 0)) ∨ (∃ p, 1 ≤ p ∧ p ≤ sP S ∧ th A k x = some (xp A p) ∧ x = lN p ∧ 10 ≤ k) ∨ (∃ r, r < sN S ∧ th A k x = some (xr A r) ∧ x = -1 - lN r ∧ 10 ≤ k ∧ sK S r = 6 ∧ k = 13) := by
  have hbd := hI.2.2.1
  have hN := hI.1
  have hP := hI.2.1
  by_cases h9 : k ≤ 9
  · exact Or.inl ⟨th_9 h9 x, Or.inl h9⟩
  · rcases hv with q | q | ⟨-, -, p, p1, p2, e⟩ | ⟨k13, r, hr, e2, e⟩
    · exact absurd q h9
    · exact Or.inl ⟨by unfold th; rw [if_neg h9, if_pos q], Or.inr q⟩
    · exact Or.inr (Or.inl ⟨p, p1, p2, by rw [e]; unfold th; rw [if_neg h9, if_neg (lN_ne (by omega) p1), if_neg (lN_nn (by omega)), lN_pN (by omega)], e, by omega⟩)
    · exact Or.inr (Or.inr ⟨r, hr, by rw [e]; unfold th; rw [if_neg h9, if_neg (neg_ne (by omega)), if_pos (neg_lt (by omega)), neg_rN (by omega)], e, by omega, e2, k13⟩)
set_option maxRecDepth 100000 in
set_option maxHeartbeats 4000000 in
theorem c_lay (l : Launch) (D : va_G) (y : mY) (S0 : Nat) (M F : mp) (h0 : Nat) (A : Ad) (tr : Nat → Nat) (f : Nat → Nat → Int64) (g : Nat → Nat → Option Nat) (S : St) (hC : CW y h0 A tr f g S M) (c0 : Nat) (hI : Inv c0 S) (hR : CR A f g S) (t1 k1 n1 : Int32) : ct l yX3_lay wsX3_lay 3 63 3 133 D y S0 M F [.ref h0, .int t1, .int k1, .int n1] (fun v M' => v = some (.int (sp_lay S t1 k1 n1).1) ∧ RC y h0 (sp_lay S t1 k1 n1).2 M') := by
  refine ct_of cX3_lay 4 (some .int) [(0, .ref h0), (1, .int t1), (2, .int k1), (3, .int n1)] (by decide +kernel) rfl (Nat.le_of_ble_eq_true rfl) rfl ?_
  intro p e s m below meth c ls C hnm hl w
  have hx := C.1
  have hb := C.2.1
  have hi_X0 : ∀ w ∈ u_ws RX0 TX0 5, w ∈ wsX3_lay := by decide +kernel
  have hi_X3 : ∀ w ∈ u_ws RX3 TX3 7, w ∈ wsX3_lay := by decide +kernel
  refine lv_iload_n hx hb dX3_lay_0 rfl (lv_at hl 1 rfl) ?_
  refine m_callS C w hl.1 (As := [.int t1]) (rest := []) (c_isTray l D y S0 M F t1) ggX3_lay_X3_isTray rfl (by decide +kernel) (by decide +kernel) (by decide +kernel) (show (_ ≠ _ ∧ _ ≠ _ ∧ _ = some 1) by decide +kernel) ⟨Nat.le_of_ble_eq_true rfl, Nat.le_of_ble_eq_true rfl⟩ rfl (Nat.le_of_ble_eq_true rfl) dX3_lay_1 ⟨Nat.le_of_ble_eq_true rfl, Nat.le_of_ble_eq_true rfl⟩ (fun v M1 H locs hq w => ?_)
  obtain ⟨rfl, hM1⟩ := hq
  rw [hM1] at w
  clear hM1 M1
  refine W.eq (g2 := F0 m 4 ls [.int (bI (inP t1 12))]) rfl ?_
  refine lv_if_eq (tgt := 28) hx hb dX3_lay_4 (by decide) (fun c_4 => ?_) (fun c_4 => ?_)
  · skip
    have n_4 : (inP t1 12) = false := bI_f c_4
    refine lv_bipush (v := (-6)) hx hb dX3_lay_28 (by decide) ?_
    exact m_iret C w dX3_lay_30 (by omega) (by omega) (⟨by rw [(show sp_lay S t1 k1 n1 = (-6, S) by unfold sp_lay; rw [if_neg (by first | (simp [n_4]; done) | (simp [kin, c_9]; done) | (simp [kin, c_15]; done) | (simp [inP, c_19]; done) | (have c9 := (lt_s1 (z := 64) (by omega)).mp (Int32.not_le.mp c_25); simp [inP, c9]; done))])], by rw [(show sp_lay S t1 k1 n1 = (-6, S) by unfold sp_lay; rw [if_neg (by first | (simp [n_4]; done) | (simp [kin, c_9]; done) | (simp [kin, c_15]; done) | (simp [inP, c_19]; done) | (have c9 := (lt_s1 (z := 64) (by omega)).mp (Int32.not_le.mp c_25); simp [inP, c9]; done))])]; exact ⟨A, tr, f, g, hC, hR⟩⟩)
  · skip
    have n_4 : (inP t1 12) = true := bI_t c_4
    refine lv_iload_n hx hb dX3_lay_7 rfl (lv_at hl 2 rfl) ?_
    refine lv_iconst (v := 2) hx hb dX3_lay_8 (by decide) ?_
    refine lv_icmp_lt (tgt := 28) hx hb dX3_lay_9 (by decide) (fun c_9 => ?_) (fun c_9 => ?_)
    · skip
      refine lv_bipush (v := (-6)) hx hb dX3_lay_28 (by decide) ?_
      exact m_iret C w dX3_lay_30 (by omega) (by omega) (⟨by rw [(show sp_lay S t1 k1 n1 = (-6, S) by unfold sp_lay; rw [if_neg (by first | (simp [n_4]; done) | (simp [kin, c_9]; done) | (simp [kin, c_15]; done) | (simp [inP, c_19]; done) | (have c9 := (lt_s1 (z := 64) (by omega)).mp (Int32.not_le.mp c_25); simp [inP, c9]; done))])], by rw [(show sp_lay S t1 k1 n1 = (-6, S) by unfold sp_lay; rw [if_neg (by first | (simp [n_4]; done) | (simp [kin, c_9]; done) | (simp [kin, c_15]; done) | (simp [inP, c_19]; done) | (have c9 := (lt_s1 (z := 64) (by omega)).mp (Int32.not_le.mp c_25); simp [inP, c9]; done))])]; exact ⟨A, tr, f, g, hC, hR⟩⟩)
    · skip
      refine lv_iload_n hx hb dX3_lay_12 rfl (lv_at hl 2 rfl) ?_
      refine lv_bipush (v := 13) hx hb dX3_lay_13 (by decide) ?_
      refine lv_icmp_gt (tgt := 28) hx hb dX3_lay_15 (by decide) (fun c_15 => ?_) (fun c_15 => ?_)
      · skip
        refine lv_bipush (v := (-6)) hx hb dX3_lay_28 (by decide) ?_
        exact m_iret C w dX3_lay_30 (by omega) (by omega) (⟨by rw [(show sp_lay S t1 k1 n1 = (-6, S) by unfold sp_lay; rw [if_neg (by first | (simp [n_4]; done) | (simp [kin, c_9]; done) | (simp [kin, c_15]; done) | (simp [inP, c_19]; done) | (have c9 := (lt_s1 (z := 64) (by omega)).mp (Int32.not_le.mp c_25); simp [inP, c9]; done))])], by rw [(show sp_lay S t1 k1 n1 = (-6, S) by unfold sp_lay; rw [if_neg (by first | (simp [n_4]; done) | (simp [kin, c_9]; done) | (simp [kin, c_15]; done) | (simp [inP, c_19]; done) | (have c9 := (lt_s1 (z := 64) (by omega)).mp (Int32.not_le.mp c_25); simp [inP, c9]; done))])]; exact ⟨A, tr, f, g, hC, hR⟩⟩)
      · skip
        refine lv_iload_n hx hb dX3_lay_18 rfl (lv_at hl 3 rfl) ?_
        refine lv_if_lt (tgt := 28) hx hb dX3_lay_19 (by decide) (fun c_19 => ?_) (fun c_19 => ?_)
        · skip
          refine lv_bipush (v := (-6)) hx hb dX3_lay_28 (by decide) ?_
          exact m_iret C w dX3_lay_30 (by omega) (by omega) (⟨by rw [(show sp_lay S t1 k1 n1 = (-6, S) by unfold sp_lay; rw [if_neg (by first | (simp [n_4]; done) | (simp [kin, c_9]; done) | (simp [kin, c_15]; done) | (simp [inP, c_19]; done) | (have c9 := (lt_s1 (z := 64) (by omega)).mp (Int32.not_le.mp c_25); simp [inP, c9]; done))])], by rw [(show sp_lay S t1 k1 n1 = (-6, S) by unfold sp_lay; rw [if_neg (by first | (simp [n_4]; done) | (simp [kin, c_9]; done) | (simp [kin, c_15]; done) | (simp [inP, c_19]; done) | (have c9 := (lt_s1 (z := 64) (by omega)).mp (Int32.not_le.mp c_25); simp [inP, c9]; done))])]; exact ⟨A, tr, f, g, hC, hR⟩⟩)
        · skip
          refine lv_iload_n hx hb dX3_lay_22 rfl (lv_at hl 3 rfl) ?_
          refine lv_bipush (v := 64) hx hb dX3_lay_23 (by decide) ?_
          refine lv_icmp_le (tgt := 31) hx hb dX3_lay_25 (by decide) (fun c_25 => ?_) (fun c_25 => ?_)
          · skip
            obtain ⟨t, ht, et⟩ := inP_t (by decide) n_4
            obtain ⟨kk, hkk, ek⟩ := nI_of2 (M := 13) (n := 13) rfl (fun q => c_9 (Int32.lt_trans q (by decide))) (Int32.not_lt.mp c_15)
            have hk2 : 2 ≤ kk := Classical.byContradiction fun q => c_9 (by rw [ek]; exact (nI_ltI (b := 2) (by omega) (by decide)).mpr (by omega))
            obtain ⟨nn, hnn, en⟩ := nI_of2 (M := 64) (n := 64) rfl c_19 c_25
            have hm : sp_lay S t1 k1 n1 = (nI nn, wTr (wRow S kk nn) (va_up (sH S) t kk) (va_up (sO S) t (nI (sN S)))) := by
              unfold sp_lay
              rw [if_pos (by rw [n_4, en, inP_nI (show nn < 65 by omega) (by decide)]; unfold kin; simp [c_9, c_15]), et, ek, en, cN_nI (by omega), cN_nI (by omega), cN_nI (by omega)]
              rfl
            refine lv_aload_n hx hb dX3_lay_31 rfl (lv_at hl 0 rfl) ?_
            refine m_get C w hC.1.1 (index := 18) (T := TX3) (N := 7) rfl hi_X3 1 (by decide) (by decide +kernel) rfl dX3_lay_32 ?_
            refine lv_iload_n hx hb dX3_lay_35 rfl (lv_at hl 1 rfl) ?_
            refine m_topi (y := nI t) et ?_
            refine m_new C w 0 [.int 0, .int 0, .int 0, .null, .null] (T := TX0) (N := 5) rfl hi_X0 tyX0 tyX0_ok (by decide +kernel) (by decide +kernel) (by decide +kernel) (by intro j hj; rcases (show j = 0 ∨ j = 1 ∨ j = 2 ∨ j = 3 ∨ j = 4 by omega) with rfl | rfl | rfl | rfl | rfl <;> rfl) (Nat.le_of_ble_eq_true rfl) (Nat.le_of_ble_eq_true rfl) dX3_lay_36 (fun q H hMq hFq w => ?_)
            obtain ⟨M1, e_M1⟩ : ∃ z, z = mu M q (eO 0 [.int 0, .int 0, .int 0, .null, .null]) := ⟨_, rfl⟩
            have w : mS D S0 M1 F s H locs := by rw [e_M1]; exact w
            have f1_h0 : M1 h0 = some (eO 2 [.ref (xN A), .ref (xT A), .ref (xB A), va_rf ((sB S).map (xr A)), .ref (xY A), .int (nI (sI S)), .int (nI (sP S))]) := by rw [e_M1]; exact mu_k (m_fr hC.1.1 hMq) hC.1.1
            have f1_q : M1 q = some (eO 0 [.int 0, .int 0, .int 0, .null, .null]) := by rw [e_M1]; exact mu_s
            refine lv_dup hx hb dX3_lay_39 rfl ?_
            refine lv_iload_n hx hb dX3_lay_40 rfl (lv_at hl 2 rfl) ?_
            refine m_topi (y := nI kk) ek ?_
            refine lv_iload_n hx hb dX3_lay_41 rfl (lv_at hl 3 rfl) ?_
            refine m_topi (y := nI nn) en ?_
            refine lv_iconst (v := 0) hx hb dX3_lay_42 (by decide) ?_
            refine m_callI C w hl.1 (As := [.int (nI kk), .int (nI nn), .int 0]) (rest := [.ref q, .int (nI t), .ref (xT A)]) (c_Hold_init l D y S0 M1 F q nn (nI kk) 0 0 0 .null .null 0 f1_q hnn) ggX3_lay_X0_init rfl (by decide +kernel) (by decide +kernel) (by decide +kernel) rfl (show (_ ≠ _ ∧ _ ≠ _ ∧ _ = some 3) by decide +kernel) ⟨Nat.le_of_ble_eq_true rfl, Nat.le_of_ble_eq_true rfl⟩ rfl (Nat.le_of_ble_eq_true rfl) dX3_lay_43 ⟨Nat.le_of_ble_eq_true rfl, by show _ + 2 * nn ≤ 133; omega⟩ (fun v M1 H locs hq w => ?_)
            obtain ⟨rfl, qL, qT, hqL, hqT, -, -, nLT, hM3⟩ := hq
            obtain ⟨M3, e_M3⟩ : ∃ z, z = M1 := ⟨_, rfl⟩
            rw [← e_M3] at w hM3
            clear e_M3 M1
            obtain ⟨hle, hq3, hL3, hT3, mL, mT⟩ := new_hold hMq e_M1 hqL hqT nLT hM3
            have hCm := hC.mono hle
            refine W.eq (g2 := F0 m 46 ls [.ref q, .int (nI t), .ref (xT A)]) rfl ?_
            have hCr := hCm.row hI hq3 hL3 hT3 (fun r hr => m_fr (hC.1.2.2.2.2.2.1 r hr) hMq) (fun j hj => m_fr (hC.2.1.1 j hj) mL) (fun j hj => m_fr (hC.2.1.2.1 j hj) mT) (Ne.symm (m_fr hC.1.2.2.1 mT))
            refine m_hast C w hCm.1.2.2.1 hq3 t rfl (by omega) (by omega) dX3_lay_46 (fun H locs w => ?_)
            have hC4 := hCr.tray ht (Or.inr (Or.inr ⟨hk2, sN S, Nat.lt_succ_self _, rfl, va_ups, va_ups.symm⟩))
            refine lv_iload_n hx hb dX3_lay_47 rfl (lv_at hl 3 rfl) ?_
            refine m_topi (y := nI nn) en ?_
            exact m_iret C w dX3_lay_48 (by omega) (by omega) (⟨by rw [hm], by rw [hm]; exact ⟨(adRow A (sN S) q qL qT), _, _, _, hC4, hR.row hI kk nn q qL qT⟩⟩)
          · skip
            refine lv_bipush (v := (-6)) hx hb dX3_lay_28 (by decide) ?_
            exact m_iret C w dX3_lay_30 (by omega) (by omega) (⟨by rw [(show sp_lay S t1 k1 n1 = (-6, S) by unfold sp_lay; rw [if_neg (by first | (simp [n_4]; done) | (simp [kin, c_9]; done) | (simp [kin, c_15]; done) | (simp [inP, c_19]; done) | (have c9 := (lt_s1 (z := 64) (by omega)).mp (Int32.not_le.mp c_25); simp [inP, c9]; done))])], by rw [(show sp_lay S t1 k1 n1 = (-6, S) by unfold sp_lay; rw [if_neg (by first | (simp [n_4]; done) | (simp [kin, c_9]; done) | (simp [kin, c_15]; done) | (simp [inP, c_19]; done) | (have c9 := (lt_s1 (z := 64) (by omega)).mp (Int32.not_le.mp c_25); simp [inP, c9]; done))])]; exact ⟨A, tr, f, g, hC, hR⟩⟩)
set_option maxRecDepth 100000 in
set_option maxHeartbeats 4000000 in
theorem c_ticket (l : Launch) (D : va_G) (y : mY) (S0 : Nat) (M F : mp) (h0 : Nat) (A : Ad) (tr : Nat → Nat) (f : Nat → Nat → Int64) (g : Nat → Nat → Option Nat) (S : St) (hC : CW y h0 A tr f g S M) (c0 : Nat) (hI : Inv c0 S) (hR : CR A f g S) (t1 w1 n1 : Int32) : ct l yX3_ticket wsX3_ticket 3 63 3 5 D y S0 M F [.ref h0, .int t1, .int w1, .int n1] (fun v M' => v = some (.int (bI (sp_ticket S t1 w1 n1).1)) ∧ RC y h0 (sp_ticket S t1 w1 n1).2 M') := by
  refine ct_of cX3_ticket 4 (some .boolean) [(0, .ref h0), (1, .int t1), (2, .int w1), (3, .int n1)] (by decide +kernel) rfl (Nat.le_of_ble_eq_true rfl) rfl ?_
  intro p e s m below meth c ls C hnm hl w
  have hx := C.1
  have hb := C.2.1
  have hi_X0 : ∀ w ∈ u_ws RX0 TX0 5, w ∈ wsX3_ticket := by decide +kernel
  have hi_X3 : ∀ w ∈ u_ws RX3 TX3 7, w ∈ wsX3_ticket := by decide +kernel
  refine lv_iload_n hx hb dX3_ticket_0 rfl (lv_at hl 1 rfl) ?_
  refine m_callS C w hl.1 (As := [.int t1]) (rest := []) (c_isTray l D y S0 M F t1) ggX3_ticket_X3_isTray rfl (by decide +kernel) (by decide +kernel) (by decide +kernel) (show (_ ≠ _ ∧ _ ≠ _ ∧ _ = some 1) by decide +kernel) ⟨Nat.le_of_ble_eq_true rfl, Nat.le_of_ble_eq_true rfl⟩ rfl (Nat.le_of_ble_eq_true rfl) dX3_ticket_1 ⟨Nat.le_of_ble_eq_true rfl, Nat.le_of_ble_eq_true rfl⟩ (fun v M1 H locs hq w => ?_)
  obtain ⟨rfl, hM1⟩ := hq
  rw [hM1] at w
  clear hM1 M1
  refine W.eq (g2 := F0 m 4 ls [.int (bI (inP t1 12))]) rfl ?_
  refine lv_if_eq (tgt := 16) hx hb dX3_ticket_4 (by decide) (fun c_4 => ?_) (fun c_4 => ?_)
  · skip
    have n_4 : (inP t1 12) = false := bI_f c_4
    refine lv_iconst (v := 0) hx hb dX3_ticket_16 (by decide) ?_
    exact m_zret C w dX3_ticket_17 (by omega) (by omega) (by first | exact Or.inl rfl | exact Or.inr rfl) (⟨by rw [(show sp_ticket S t1 w1 n1 = (false, S) by unfold sp_ticket; rw [if_neg (by first | (simp [n_4]; done) | (simp [inP_2 c_8 c_13]; done))])]; rfl, by rw [(show sp_ticket S t1 w1 n1 = (false, S) by unfold sp_ticket; rw [if_neg (by first | (simp [n_4]; done) | (simp [inP_2 c_8 c_13]; done))])]; exact ⟨A, tr, f, g, hC, hR⟩⟩)
  · skip
    have n_4 : (inP t1 12) = true := bI_t c_4
    refine lv_iload_n hx hb dX3_ticket_7 rfl (lv_at hl 2 rfl) ?_
    refine lv_if_eq (tgt := 18) hx hb dX3_ticket_8 (by decide) (fun c_8 => ?_) (fun c_8 => ?_)
    · skip
      obtain ⟨t, ht, et⟩ := inP_t (by decide) n_4
      have hm : sp_ticket S t1 w1 n1 = (true, wTr S (va_up (sH S) t 0) (va_up (sO S) t 0)) := by unfold sp_ticket; rw [if_pos (by rw [n_4, c_8]; decide), et, c_8, cN_nI (by omega)]; rfl
      refine lv_aload_n hx hb dX3_ticket_18 rfl (lv_at hl 0 rfl) ?_
      refine m_get C w hC.1.1 (index := 18) (T := TX3) (N := 7) rfl hi_X3 1 (by decide) (by decide +kernel) rfl dX3_ticket_19 ?_
      refine lv_iload_n hx hb dX3_ticket_22 rfl (lv_at hl 1 rfl) ?_
      refine m_topi (y := nI t) et ?_
      refine lv_iload_n hx hb dX3_ticket_23 rfl (lv_at hl 2 rfl) ?_
      refine m_topi (y := 0) c_8 ?_
      refine lv_iconst (v := 1) hx hb dX3_ticket_24 (by decide) ?_
      refine lv_icmp_ne (tgt := 41) hx hb dX3_ticket_25 (by decide) (fun _ => ?_) (fun h => absurd h (by decide))
      refine lv_aload_n hx hb dX3_ticket_41 rfl (lv_at hl 0 rfl) ?_
      refine m_get C w hC.1.1 (index := 14) (T := TX3) (N := 7) rfl hi_X3 0 (by decide) (by decide +kernel) rfl dX3_ticket_42 ?_
      obtain ⟨a9, b9, hn9⟩ := hC.1.2.1
      refine m_hast C w hC.1.2.2.1 hn9 t rfl (by omega) (by omega) dX3_ticket_45 (fun H locs w => ?_)
      have hC4 := hC.tray (k := 0) (x := 0) ht (Or.inl ⟨rfl, rfl⟩)
      refine lv_iconst (v := 1) hx hb dX3_ticket_46 (by decide) ?_
      exact m_zret C w dX3_ticket_47 (by omega) (by omega) (by first | exact Or.inl rfl | exact Or.inr rfl) (⟨by rw [hm]; rfl, by rw [hm]; exact ⟨A, _, f, g, hC4, hR⟩⟩)
    · skip
      refine lv_iload_n hx hb dX3_ticket_11 rfl (lv_at hl 2 rfl) ?_
      refine lv_iconst (v := 1) hx hb dX3_ticket_12 (by decide) ?_
      refine lv_icmp_eq (tgt := 18) hx hb dX3_ticket_13 (by decide) (fun c_13 => ?_) (fun c_13 => ?_)
      · skip
        obtain ⟨t, ht, et⟩ := inP_t (by decide) n_4
        have hm : sp_ticket S t1 w1 n1 = (true, wTr S (va_up (sH S) t 1) (va_up (sO S) t n1)) := by unfold sp_ticket; rw [if_pos (by rw [n_4, c_13]; decide), et, c_13, cN_nI (by omega)]; rfl
        refine lv_aload_n hx hb dX3_ticket_18 rfl (lv_at hl 0 rfl) ?_
        refine m_get C w hC.1.1 (index := 18) (T := TX3) (N := 7) rfl hi_X3 1 (by decide) (by decide +kernel) rfl dX3_ticket_19 ?_
        refine lv_iload_n hx hb dX3_ticket_22 rfl (lv_at hl 1 rfl) ?_
        refine m_topi (y := nI t) et ?_
        refine lv_iload_n hx hb dX3_ticket_23 rfl (lv_at hl 2 rfl) ?_
        refine m_topi (y := 1) c_13 ?_
        refine lv_iconst (v := 1) hx hb dX3_ticket_24 (by decide) ?_
        refine lv_icmp_ne (tgt := 41) hx hb dX3_ticket_25 (by decide) (fun h => absurd h (by decide)) (fun _ => ?_)
        refine m_new C w 0 [.int 0, .int 0, .int 0, .null, .null] (T := TX0) (N := 5) rfl hi_X0 tyX0 tyX0_ok (by decide +kernel) (by decide +kernel) (by decide +kernel) (by intro j hj; rcases (show j = 0 ∨ j = 1 ∨ j = 2 ∨ j = 3 ∨ j = 4 by omega) with rfl | rfl | rfl | rfl | rfl <;> rfl) (Nat.le_of_ble_eq_true rfl) (Nat.le_of_ble_eq_true rfl) dX3_ticket_28 (fun q H hMq hFq w => ?_)
        obtain ⟨M1, e_M1⟩ : ∃ z, z = mu M q (eO 0 [.int 0, .int 0, .int 0, .null, .null]) := ⟨_, rfl⟩
        have w : mS D S0 M1 F s H locs := by rw [e_M1]; exact w
        have f1_h0 : M1 h0 = some (eO 2 [.ref (xN A), .ref (xT A), .ref (xB A), va_rf ((sB S).map (xr A)), .ref (xY A), .int (nI (sI S)), .int (nI (sP S))]) := by rw [e_M1]; exact mu_k (m_fr hC.1.1 hMq) hC.1.1
        have f1_q : M1 q = some (eO 0 [.int 0, .int 0, .int 0, .null, .null]) := by rw [e_M1]; exact mu_s
        refine lv_dup hx hb dX3_ticket_31 rfl ?_
        refine lv_iconst (v := 1) hx hb dX3_ticket_32 (by decide) ?_
        refine lv_iconst (v := 0) hx hb dX3_ticket_33 (by decide) ?_
        refine lv_iload_n hx hb dX3_ticket_34 rfl (lv_at hl 3 rfl) ?_
        refine m_callI C w hl.1 (As := [.int 1, .int 0, .int n1]) (rest := [.ref q, .int (nI t), .ref (xT A)]) (c_Hold_init l D y S0 M1 F q 0 1 0 0 0 .null .null n1 f1_q (by omega)) ggX3_ticket_X0_init rfl (by decide +kernel) (by decide +kernel) (by decide +kernel) rfl (show (_ ≠ _ ∧ _ ≠ _ ∧ _ = some 3) by decide +kernel) ⟨Nat.le_of_ble_eq_true rfl, Nat.le_of_ble_eq_true rfl⟩ rfl (Nat.le_of_ble_eq_true rfl) dX3_ticket_35 ⟨Nat.le_of_ble_eq_true rfl, Nat.le_of_ble_eq_true rfl⟩ (fun v M1 H locs hq w => ?_)
        obtain ⟨rfl, qL, qT, hqL, hqT, -, -, nLT, hM3⟩ := hq
        obtain ⟨M3, e_M3⟩ : ∃ z, z = M1 := ⟨_, rfl⟩
        rw [← e_M3] at w hM3
        clear e_M3 M1
        obtain ⟨hle, hq3, hL3, hT3, mL, mT⟩ := new_hold hMq e_M1 hqL hqT nLT hM3
        have hCm := hC.mono hle
        refine W.eq (g2 := F0 m 38 ls [.ref q, .int (nI t), .ref (xT A)]) rfl ?_
        refine lv_goto (tgt := 45) hx hb dX3_ticket_38 (by decide) ?_
        refine m_hast C w hCm.1.2.2.1 hq3 t rfl (by omega) (by omega) dX3_ticket_45 (fun H locs w => ?_)
        have hC4 := hCm.tray (k := 1) (x := n1) ht (Or.inr (Or.inl ⟨rfl, qL, qT, hq3⟩))
        refine lv_iconst (v := 1) hx hb dX3_ticket_46 (by decide) ?_
        exact m_zret C w dX3_ticket_47 (by omega) (by omega) (by first | exact Or.inl rfl | exact Or.inr rfl) (⟨by rw [hm]; rfl, by rw [hm]; exact ⟨A, _, f, g, hC4, hR⟩⟩)
      · skip
        refine lv_iconst (v := 0) hx hb dX3_ticket_16 (by decide) ?_
        exact m_zret C w dX3_ticket_17 (by omega) (by omega) (by first | exact Or.inl rfl | exact Or.inr rfl) (⟨by rw [(show sp_ticket S t1 w1 n1 = (false, S) by unfold sp_ticket; rw [if_neg (by first | (simp [n_4]; done) | (simp [inP_2 c_8 c_13]; done))])]; rfl, by rw [(show sp_ticket S t1 w1 n1 = (false, S) by unfold sp_ticket; rw [if_neg (by first | (simp [n_4]; done) | (simp [inP_2 c_8 c_13]; done))])]; exact ⟨A, tr, f, g, hC, hR⟩⟩)
set_option maxRecDepth 100000 in
set_option maxHeartbeats 4000000 in
theorem c_share (l : Launch) (D : va_G) (y : mY) (S0 : Nat) (M F : mp) (h0 : Nat) (A : Ad) (tr : Nat → Nat) (f : Nat → Nat → Int64) (g : Nat → Nat → Option Nat) (S : St) (hC : CW y h0 A tr f g S M) (c0 : Nat) (hI : Inv c0 S) (hR : CR A f g S) (a1 t1 : Int32) : ct l yX3_share wsX3_share 1 20 0 0 D y S0 M F [.ref h0, .int a1, .int t1] (fun v M' => v = some (.int (sp_share S a1 t1).1) ∧ RC y h0 (sp_share S a1 t1).2 M') := by
  refine ct_of cX3_share 3 (some .int) [(0, .ref h0), (1, .int a1), (2, .int t1)] (by decide +kernel) rfl (Nat.le_of_ble_eq_true rfl) rfl ?_
  intro p e s m below meth c ls C hnm hl w
  have hx := C.1
  have hb := C.2.1
  have hi_X0 : ∀ w ∈ u_ws RX0 TX0 5, w ∈ wsX3_share := by decide +kernel
  have hi_X3 : ∀ w ∈ u_ws RX3 TX3 7, w ∈ wsX3_share := by decide +kernel
  refine lv_iload_n hx hb dX3_share_0 rfl (lv_at hl 1 rfl) ?_
  refine m_callS C w hl.1 (As := [.int a1]) (rest := []) (c_isTray l D y S0 M F a1) ggX3_share_X3_isTray rfl (by decide +kernel) (by decide +kernel) (by decide +kernel) (show (_ ≠ _ ∧ _ ≠ _ ∧ _ = some 1) by decide +kernel) ⟨Nat.le_of_ble_eq_true rfl, Nat.le_of_ble_eq_true rfl⟩ rfl (Nat.le_of_ble_eq_true rfl) dX3_share_1 ⟨Nat.le_of_ble_eq_true rfl, Nat.le_of_ble_eq_true rfl⟩ (fun v M1 H locs hq w => ?_)
  obtain ⟨rfl, hM1⟩ := hq
  rw [hM1] at w
  clear hM1 M1
  refine W.eq (g2 := F0 m 4 ls [.int (bI (inP a1 12))]) rfl ?_
  refine lv_if_eq (tgt := 14) hx hb dX3_share_4 (by decide) (fun c_4 => ?_) (fun c_4 => ?_)
  · skip
    have n_4 : (inP a1 12) = false := bI_f c_4
    refine lv_bipush (v := (-6)) hx hb dX3_share_14 (by decide) ?_
    exact m_iret C w dX3_share_16 (by omega) (by omega) (⟨by rw [(show sp_share S a1 t1 = (-6, S) by unfold sp_share; rw [if_neg (by first | (simp [n_4, n_11]; done) | (simp [n_4]; done))])], by rw [(show sp_share S a1 t1 = (-6, S) by unfold sp_share; rw [if_neg (by first | (simp [n_4, n_11]; done) | (simp [n_4]; done))])]; exact ⟨A, tr, f, g, hC, hR⟩⟩)
  · skip
    have n_4 : (inP a1 12) = true := bI_t c_4
    refine lv_iload_n hx hb dX3_share_7 rfl (lv_at hl 2 rfl) ?_
    refine m_callS C w hl.1 (As := [.int t1]) (rest := []) (c_isTray l D y S0 M F t1) ggX3_share_X3_isTray rfl (by decide +kernel) (by decide +kernel) (by decide +kernel) (show (_ ≠ _ ∧ _ ≠ _ ∧ _ = some 1) by decide +kernel) ⟨Nat.le_of_ble_eq_true rfl, Nat.le_of_ble_eq_true rfl⟩ rfl (Nat.le_of_ble_eq_true rfl) dX3_share_8 ⟨Nat.le_of_ble_eq_true rfl, Nat.le_of_ble_eq_true rfl⟩ (fun v M1 H locs hq w => ?_)
    obtain ⟨rfl, hM1⟩ := hq
    rw [hM1] at w
    clear hM1 M1
    refine W.eq (g2 := F0 m 11 ls [.int (bI (inP t1 12))]) rfl ?_
    refine lv_if_ne (tgt := 17) hx hb dX3_share_11 (by decide) (fun c_11 => ?_) (fun c_11 => ?_)
    · skip
      have n_11 : (inP t1 12) = true := bI_t c_11
      obtain ⟨ta, hta, ea⟩ := inP_t (by decide) n_4
      obtain ⟨tb, htb, eb⟩ := inP_t (by decide) n_11
      obtain ⟨tk, na, tax, hq0, -, -⟩ := hC.1.tray hI hta
      have hm : sp_share S a1 t1 = (nI (sH S ta), wTr S (va_up (sH S) tb (sH S ta)) (va_up (sO S) tb (sO S ta))) := by unfold sp_share; rw [if_pos (by rw [n_4, n_11]; rfl), ea, eb, cN_nI (by omega), cN_nI (by omega)]
      refine lv_aload_n hx hb dX3_share_17 rfl (lv_at hl 0 rfl) ?_
      refine m_get C w hC.1.1 (index := 18) (T := TX3) (N := 7) rfl hi_X3 1 (by decide) (by decide +kernel) rfl dX3_share_18 ?_
      refine lv_iload_n hx hb dX3_share_21 rfl (lv_at hl 2 rfl) ?_
      refine m_topi (y := nI tb) eb ?_
      refine lv_aload_n hx hb dX3_share_22 rfl (lv_at hl 0 rfl) ?_
      refine m_get C w hC.1.1 (index := 18) (T := TX3) (N := 7) rfl hi_X3 1 (by decide) (by decide +kernel) rfl dX3_share_23 ?_
      refine lv_iload_n hx hb dX3_share_26 rfl (lv_at hl 1 rfl) ?_
      refine m_topi (y := nI ta) ea ?_
      refine m_hald C w hC.1.2.2.1 ta rfl (by omega) (by omega) dX3_share_27 ?_
      refine m_hast C w hC.1.2.2.1 hq0 tb rfl (by omega) (by omega) dX3_share_28 (fun H locs w => ?_)
      have hC4 := hC.tray (k := sH S ta) (x := sO S ta) htb (hC.1.2.2.2.2.2.2.2 ta hta)
      obtain ⟨M2, e_M2⟩ : ∃ z, z = mu M (xT A) (eH y 12 (va_up (fun t => some (tr t)) tb (some (tr ta)))) := ⟨_, rfl⟩
      rw [← e_M2] at hC4
      have w : mS D S0 M2 F s H locs := by rw [e_M2]; exact w
      have hq2 : M2 (tr ta) = some (eO 0 (hF (sH S ta) (zT S ta) tk na tax)) := by rw [e_M2]; exact mu_k (m_ne hq0 hC.1.2.2.1 ne_OA) hq0
      refine lv_aload_n hx hb dX3_share_29 rfl (lv_at hl 0 rfl) ?_
      refine m_get C w hC4.1.1 (index := 18) (T := TX3) (N := 7) rfl hi_X3 1 (by decide) (by decide +kernel) rfl dX3_share_30 ?_
      refine lv_iload_n hx hb dX3_share_33 rfl (lv_at hl 2 rfl) ?_
      refine m_topi (y := nI tb) eb ?_
      refine m_hald C w hC4.1.2.2.1 tb rfl (by omega) (by omega) dX3_share_34 ?_
      refine m_topq (y := some (tr ta)) (congrArg some va_ups) ?_
      refine m_getN C w hq2 (index := 43) (host := "BeadBench") (T := TX0) (N := 5) rfl hi_X0 0 (by decide) (by decide +kernel) rfl dX3_share_35 ?_
      exact m_iret C w dX3_share_38 (by omega) (by omega) (⟨by rw [hm], by rw [hm]; exact ⟨A, _, f, g, hC4, hR⟩⟩)
    · skip
      have n_11 : (inP t1 12) = false := bI_f c_11
      refine lv_bipush (v := (-6)) hx hb dX3_share_14 (by decide) ?_
      exact m_iret C w dX3_share_16 (by omega) (by omega) (⟨by rw [(show sp_share S a1 t1 = (-6, S) by unfold sp_share; rw [if_neg (by first | (simp [n_4, n_11]; done) | (simp [n_4]; done))])], by rw [(show sp_share S a1 t1 = (-6, S) by unfold sp_share; rw [if_neg (by first | (simp [n_4, n_11]; done) | (simp [n_4]; done))])]; exact ⟨A, tr, f, g, hC, hR⟩⟩)
set_option maxRecDepth 100000 in
set_option maxHeartbeats 4000000 in
theorem c_tray (l : Launch) (D : va_G) (y : mY) (S0 : Nat) (M F : mp) (h0 : Nat) (A : Ad) (tr : Nat → Nat) (f : Nat → Nat → Int64) (g : Nat → Nat → Option Nat) (S : St) (hC : CW y h0 A tr f g S M) (c0 : Nat) (hI : Inv c0 S) (hR : CR A f g S) (t1 w1 : Int32) : ct l yX3_tray wsX3_tray 1 20 0 0 D y S0 M F [.ref h0, .int t1, .int w1] (fun v M' => v = some (.int (sp_tray S t1 w1)) ∧ M' = M) := by
  refine ct_of cX3_tray 4 (some .int) [(0, .ref h0), (1, .int t1), (2, .int w1)] (by decide +kernel) rfl (Nat.le_of_ble_eq_true rfl) rfl ?_
  intro p e s m below meth c ls C hnm hl w
  have hx := C.1
  have hb := C.2.1
  have hi_X0 : ∀ w ∈ u_ws RX0 TX0 5, w ∈ wsX3_tray := by decide +kernel
  have hi_X3 : ∀ w ∈ u_ws RX3 TX3 7, w ∈ wsX3_tray := by decide +kernel
  refine lv_iload_n hx hb dX3_tray_0 rfl (lv_at hl 1 rfl) ?_
  refine m_callS C w hl.1 (As := [.int t1]) (rest := []) (c_isTray l D y S0 M F t1) ggX3_tray_X3_isTray rfl (by decide +kernel) (by decide +kernel) (by decide +kernel) (show (_ ≠ _ ∧ _ ≠ _ ∧ _ = some 1) by decide +kernel) ⟨Nat.le_of_ble_eq_true rfl, Nat.le_of_ble_eq_true rfl⟩ rfl (Nat.le_of_ble_eq_true rfl) dX3_tray_1 ⟨Nat.le_of_ble_eq_true rfl, Nat.le_of_ble_eq_true rfl⟩ (fun v M1 H locs hq w => ?_)
  obtain ⟨rfl, hM1⟩ := hq
  rw [hM1] at w
  clear hM1 M1
  refine W.eq (g2 := F0 m 4 ls [.int (bI (inP t1 12))]) rfl ?_
  refine lv_if_eq (tgt := 16) hx hb dX3_tray_4 (by decide) (fun c_4 => ?_) (fun c_4 => ?_)
  · skip
    have n_4 : (inP t1 12) = false := bI_f c_4
    refine lv_bipush (v := (-6)) hx hb dX3_tray_16 (by decide) ?_
    exact m_iret C w dX3_tray_18 (by omega) (by omega) (⟨by unfold sp_tray; rw [if_pos (by first | (simp [n_4]; done) | (simp [inP, c_8]; done) | (have c9 := (lt_s1 (z := 1) (by omega)).mp (Int32.not_le.mp c_13); simp [inP, c9]; done))], rfl⟩)
  · skip
    have n_4 : (inP t1 12) = true := bI_t c_4
    refine lv_iload_n hx hb dX3_tray_7 rfl (lv_at hl 2 rfl) ?_
    refine lv_if_lt (tgt := 16) hx hb dX3_tray_8 (by decide) (fun c_8 => ?_) (fun c_8 => ?_)
    · skip
      refine lv_bipush (v := (-6)) hx hb dX3_tray_16 (by decide) ?_
      exact m_iret C w dX3_tray_18 (by omega) (by omega) (⟨by unfold sp_tray; rw [if_pos (by first | (simp [n_4]; done) | (simp [inP, c_8]; done) | (have c9 := (lt_s1 (z := 1) (by omega)).mp (Int32.not_le.mp c_13); simp [inP, c9]; done))], rfl⟩)
    · skip
      refine lv_iload_n hx hb dX3_tray_11 rfl (lv_at hl 2 rfl) ?_
      refine lv_iconst (v := 1) hx hb dX3_tray_12 (by decide) ?_
      refine lv_icmp_le (tgt := 19) hx hb dX3_tray_13 (by decide) (fun c_13 => ?_) (fun c_13 => ?_)
      · skip
        obtain ⟨t, ht, et⟩ := inP_t (by decide) n_4
        obtain ⟨tk, na, ta, hq0, htk, -⟩ := hC.1.tray hI ht
        have hk13 := (hI.2.2.2.2.2.2.1 t ht).1
        have hw2 : inP w1 2 = true := by unfold inP; have c9 : ¬ nI 2 ≤ w1 := fun q => absurd ((lt_s1 (z := 1) (by omega)).mpr q) (Int32.not_lt.mpr c_13); simp [c_8, c9]
        have hm : sp_tray S t1 w1 = if w1 = 0 then nI (sH S t) else if sH S t = 1 then sO S t else nI (zT S t) := by unfold sp_tray; rw [if_neg (by rw [n_4, hw2]; decide), et, cN_nI (by omega)]
        refine lv_aload_n hx hb dX3_tray_19 rfl (lv_at hl 0 rfl) ?_
        refine m_get C w hC.1.1 (index := 18) (T := TX3) (N := 7) rfl hi_X3 1 (by decide) (by decide +kernel) rfl dX3_tray_20 ?_
        refine lv_iload_n hx hb dX3_tray_23 rfl (lv_at hl 1 rfl) ?_
        refine m_topi (y := nI t) et ?_
        refine m_hald C w hC.1.2.2.1 t rfl (by omega) (by omega) dX3_tray_24 ?_
        refine lv_astore_n (lv' := [(3, .ref (tr t)), (0, .ref h0), (1, .int t1), (2, .int w1)]) hx hb dX3_tray_25 rfl hl (by decide) rfl (fun ls hl => ?_)
        refine lv_iload_n hx hb dX3_tray_26 rfl (lv_at hl 3 rfl) ?_
        refine lv_if_ne (tgt := 35) hx hb dX3_tray_27 (by decide) (fun c_27 => ?_) (fun c_27 => ?_)
        · skip
          refine lv_aload_n hx hb dX3_tray_35 rfl (lv_at hl 0 rfl) ?_
          refine m_getN C w hq0 (index := 43) (host := "BeadBench") (T := TX0) (N := 5) rfl hi_X0 0 (by decide) (by decide +kernel) rfl dX3_tray_36 ?_
          refine lv_iconst (v := 1) hx hb dX3_tray_39 (by decide) ?_
          refine lv_icmp_ne (tgt := 50) hx hb dX3_tray_40 (by decide) (fun c_40 => ?_) (fun c_40 => ?_)
          · skip
            have n_40 : ¬ (sH S t) = 1 := fun h => absurd ((nI_eq (by omega) (by omega)).mpr h) c_40
            refine lv_aload_n hx hb dX3_tray_50 rfl (lv_at hl 0 rfl) ?_
            refine m_getN C w hq0 (index := 89) (host := "BeadBench") (T := TX0) (N := 5) rfl hi_X0 1 (by decide) (by decide +kernel) rfl dX3_tray_51 ?_
            exact m_iret C w dX3_tray_54 (by omega) (by omega) (⟨by rw [hm, if_neg c_27, if_neg n_40], rfl⟩)
          · skip
            have n_40 : (sH S t) = 1 := (nI_eq (by omega) (by omega)).mp (by first | exact c_40 | exact Classical.not_not.mp c_40)
            refine lv_aload_n hx hb dX3_tray_43 rfl (lv_at hl 0 rfl) ?_
            refine m_getN C w hq0 (index := 125) (host := "BeadBench") (T := TX0) (N := 5) rfl hi_X0 2 (by decide) (by decide +kernel) rfl dX3_tray_44 ?_
            refine lv_goto (tgt := 54) hx hb dX3_tray_47 (by decide) ?_
            exact m_iret C w dX3_tray_54 (by omega) (by omega) (⟨by rw [hm, if_neg c_27, if_pos n_40, htk n_40], rfl⟩)
        · skip
          refine lv_aload_n hx hb dX3_tray_30 rfl (lv_at hl 0 rfl) ?_
          refine m_getN C w hq0 (index := 43) (host := "BeadBench") (T := TX0) (N := 5) rfl hi_X0 0 (by decide) (by decide +kernel) rfl dX3_tray_31 ?_
          exact m_iret C w dX3_tray_34 (by omega) (by omega) (⟨by rw [hm, if_pos c_27], rfl⟩)
      · skip
        refine lv_bipush (v := (-6)) hx hb dX3_tray_16 (by decide) ?_
        exact m_iret C w dX3_tray_18 (by omega) (by omega) (⟨by unfold sp_tray; rw [if_pos (by first | (simp [n_4]; done) | (simp [inP, c_8]; done) | (have c9 := (lt_s1 (z := 1) (by omega)).mp (Int32.not_le.mp c_13); simp [inP, c9]; done))], rfl⟩)
set_option maxRecDepth 100000 in
set_option maxHeartbeats 4000000 in
theorem c_told (l : Launch) (D : va_G) (y : mY) (S0 : Nat) (M F : mp) (h0 : Nat) (A : Ad) (tr : Nat → Nat) (f : Nat → Nat → Int64) (g : Nat → Nat → Option Nat) (S : St) (hC : CW y h0 A tr f g S M) (c0 : Nat) (hI : Inv c0 S) (hR : CR A f g S) (w1 : Int32) : ct l yX3_told wsX3_told 0 0 0 0 D y S0 M F [.ref h0, .int w1] (fun v M' => v = some (.int (sp_told S w1)) ∧ M' = M) := by
  refine ct_of cX3_told 2 (some .int) [(0, .ref h0), (1, .int w1)] (by decide +kernel) rfl (Nat.le_of_ble_eq_true rfl) rfl ?_
  intro p e s m below meth c ls C hnm hl w
  have hx := C.1
  have hb := C.2.1
  have hi_X3 : ∀ w ∈ u_ws RX3 TX3 7, w ∈ wsX3_told := by decide +kernel
  refine lv_iload_n hx hb dX3_told_0 rfl (lv_at hl 1 rfl) ?_
  refine lv_if_ne (tgt := 9) hx hb dX3_told_1 (by decide) (fun c_1 => ?_) (fun c_1 => ?_)
  · skip
    refine lv_iload_n hx hb dX3_told_9 rfl (lv_at hl 1 rfl) ?_
    refine lv_iconst (v := 1) hx hb dX3_told_10 (by decide) ?_
    refine lv_icmp_lt (tgt := 32) hx hb dX3_told_11 (by decide) (fun c_11 => ?_) (fun c_11 => ?_)
    · skip
      refine lv_iload_n hx hb dX3_told_32 rfl (lv_at hl 1 rfl) ?_
      refine lv_bipush (v := 7) hx hb dX3_told_33 (by decide) ?_
      refine lv_icmp_ne (tgt := 45) hx hb dX3_told_35 (by decide) (fun c_35 => ?_) (fun c_35 => ?_)
      · skip
        refine lv_bipush (v := (-6)) hx hb dX3_told_45 (by decide) ?_
        exact m_iret C w dX3_told_47 (by omega) (by omega) (⟨by unfold sp_told; rw [if_neg c_1, if_neg (by first | (simp [c_11]; done) | (have c9 : (6 : Int32) < w1 := c_20; simp [c9]; done)), if_neg c_35], rfl⟩)
      · skip
        refine lv_aload_n hx hb dX3_told_38 rfl (lv_at hl 0 rfl) ?_
        refine m_get C w hC.1.1 (index := 36) (T := TX3) (N := 7) rfl hi_X3 6 (by decide) (by decide +kernel) rfl dX3_told_39 ?_
        refine lv_goto (tgt := 47) hx hb dX3_told_42 (by decide) ?_
        exact m_iret C w dX3_told_47 (by omega) (by omega) (⟨by unfold sp_told; rw [if_neg c_1, if_neg (by first | (simp [c_11]; done) | (have c9 : (6 : Int32) < w1 := c_20; simp [c9]; done)), if_pos c_35], rfl⟩)
    · skip
      refine lv_iload_n hx hb dX3_told_14 rfl (lv_at hl 1 rfl) ?_
      refine lv_aload_n hx hb dX3_told_15 rfl (lv_at hl 0 rfl) ?_
      refine m_get C w hC.1.1 (index := 28) (T := TX3) (N := 7) rfl hi_X3 4 (by decide) (by decide +kernel) rfl dX3_told_16 ?_
      refine m_alenI C w hC.1.2.2.2.2.1 dX3_told_19 ?_
      refine lv_icmp_gt (tgt := 32) hx hb dX3_told_20 (by decide) (fun c_20 => ?_) (fun c_20 => ?_)
      · skip
        refine lv_iload_n hx hb dX3_told_32 rfl (lv_at hl 1 rfl) ?_
        refine lv_bipush (v := 7) hx hb dX3_told_33 (by decide) ?_
        refine lv_icmp_ne (tgt := 45) hx hb dX3_told_35 (by decide) (fun c_35 => ?_) (fun c_35 => ?_)
        · skip
          refine lv_bipush (v := (-6)) hx hb dX3_told_45 (by decide) ?_
          exact m_iret C w dX3_told_47 (by omega) (by omega) (⟨by unfold sp_told; rw [if_neg c_1, if_neg (by first | (simp [c_11]; done) | (have c9 : (6 : Int32) < w1 := c_20; simp [c9]; done)), if_neg c_35], rfl⟩)
        · skip
          refine lv_aload_n hx hb dX3_told_38 rfl (lv_at hl 0 rfl) ?_
          refine m_get C w hC.1.1 (index := 36) (T := TX3) (N := 7) rfl hi_X3 6 (by decide) (by decide +kernel) rfl dX3_told_39 ?_
          refine lv_goto (tgt := 47) hx hb dX3_told_42 (by decide) ?_
          exact m_iret C w dX3_told_47 (by omega) (by omega) (⟨by unfold sp_told; rw [if_neg c_1, if_neg (by first | (simp [c_11]; done) | (have c9 : (6 : Int32) < w1 := c_20; simp [c9]; done)), if_pos c_35], rfl⟩)
      · skip
        obtain ⟨j, hj, ej⟩ := nI_of2 (M := 6) (n := 6) rfl (fun q => c_11 (Int32.lt_trans q (by decide))) (Int32.not_lt.mp c_20)
        have hj1 : 1 ≤ j := by
          rcases Nat.eq_zero_or_pos j with h | h
          · rw [ej, h] at c_11; exact absurd (show nI 0 < 1 by decide) c_11
          · exact h
        refine lv_aload_n hx hb dX3_told_23 rfl (lv_at hl 0 rfl) ?_
        refine m_get C w hC.1.1 (index := 28) (T := TX3) (N := 7) rfl hi_X3 4 (by decide) (by decide +kernel) rfl dX3_told_24 ?_
        refine lv_iload_n hx hb dX3_told_27 rfl (lv_at hl 1 rfl) ?_
        refine m_topi (y := nI j) ej ?_
        refine lv_iconst (v := 1) hx hb dX3_told_28 (by decide) ?_
        refine lv_isub hx hb dX3_told_29 ?_
        refine m_topi (y := nI (j - 1)) (by rw [show (1 : Int32) = nI 1 from rfl]; exact pk_sub hj1) ?_
        refine m_iald C w hC.1.2.2.2.2.1 (j - 1) rfl (by omega) (by omega) dX3_told_30 ?_
        exact m_iret C w dX3_told_31 (by omega) (by omega) (⟨by unfold sp_told; rw [if_neg c_1, if_pos (by have c9 : ¬ (6 : Int32) < w1 := c_20; simp [c_11, c9]), ej, cN_nI (by omega)], rfl⟩)
  · skip
    refine lv_aload_n hx hb dX3_told_4 rfl (lv_at hl 0 rfl) ?_
    refine m_get C w hC.1.1 (index := 32) (T := TX3) (N := 7) rfl hi_X3 5 (by decide) (by decide +kernel) rfl dX3_told_5 ?_
    exact m_iret C w dX3_told_8 (by omega) (by omega) (⟨by unfold sp_told; rw [if_pos c_1], rfl⟩)
