theorem sumW_congr {f g : Nat → Int64} : ∀ {n : Nat}, (∀ i, i < n → f i = g i) → sumW f n = sumW g n := by
  intro n
  induction n with
  | zero => intro _; rfl
  | succ n ih =>
    intro h
    unfold sumW
    rw [ih (fun i hi => h i (by omega)), h n (by omega)]
theorem CW.pol {y : mY} {h0 : Nat} {A : Ad} {tr : Nat → Nat} {f : Nat → Nat → Int64} {g : Nat → Nat → Option Nat} {S : St} {M : mp} (h : CW y h0 A tr f g S M) {q : Nat} (q1 : 1 ≤ q) (q2 : q ≤ sP S) (z : Int32) : CW y h0 A tr f g (wPo S (va_up (sL S) q z)) (mu M (xp A q) (eO 1 [.int (nI (sS S q + 1)), .int (nI q), .int z])) := by
  obtain ⟨⟨h1, ⟨a2, b2, h2⟩, h3, h4, h5, h6, h7, h8⟩, ⟨k1, k2, k3⟩, d1, d2, d3, d4, d5⟩ := h
  have hq := h7 q q1 q2
  refine ⟨⟨mu_k (m_ne h1 hq (by simp)) h1, ⟨a2, b2, mu_k (m_ne h2 hq (by simp)) h2⟩, mu_k (m_ne h3 hq (by simp)) h3, mu_k (m_ne h4 hq (by simp)) h4, mu_k (m_ne h5 hq (by simp)) h5, fun r hr => mu_k (m_ne (h6 r hr) hq (by simp)) (h6 r hr), fun j j1 j2 => ?_, fun t ht => ?_⟩, ⟨fun j hj => mu_k (m_ne (k1 j hj) hq (by simp)) (k1 j hj), fun j hj => mu_k (m_ne (k2 j hj) hq (by simp)) (k2 j hj), k3⟩, d1, d2, d3, d4, d5⟩
  · show mu M (xp A q) _ (xp A j) = some (eO 1 [.int (nI (sS S j + 1)), .int (nI j), .int (va_up (sL S) q z j)])
    by_cases e : j = q
    · rw [e, va_ups]; exact mu_s
    · rw [va_upo e]; exact mu_k (fun e1 => e (d5 j q j1 j2 q1 q2 e1)) (h7 j j1 j2)
  · rcases h8 t ht with q9 | ⟨q9, a3, b3, q3⟩ | q9
    · exact Or.inl q9
    · exact Or.inr (Or.inl ⟨q9, a3, b3, mu_k (m_ne q3 hq (by simp)) q3⟩)
    · exact Or.inr (Or.inr q9)
set_option maxRecDepth 100000 in
set_option maxHeartbeats 4000000 in
theorem c_what (l : Launch) (D : va_G) (y : mY) (S0 : Nat) (M F : mp) (h0 : Nat) (A : Ad) (tr : Nat → Nat) (f : Nat → Nat → Int64) (g : Nat → Nat → Option Nat) (S : St) (hC : CW y h0 A tr f g S M) (c0 : Nat) (hI : Inv c0 S) (hR : CR A f g S) (t1 i1 : Int32) : ct l yX3_what wsX3_what 1 28 0 0 D y S0 M F [.ref h0, .int t1, .int i1] (fun v M' => v = some (.int (sp_what S t1 i1)) ∧ M' = M) := by
  refine ct_of cX3_what 6 (some .int) [(0, .ref h0), (1, .int t1), (2, .int i1)] (by decide +kernel) rfl (Nat.le_of_ble_eq_true rfl) rfl ?_
  intro p e s m below meth c ls C hnm hl w
  have hx := C.1
  have hb := C.2.1
  have hi_X0 : ∀ w ∈ u_ws RX0 TX0 5, w ∈ wsX3_what := by decide +kernel
  have hi_X3 : ∀ w ∈ u_ws RX3 TX3 7, w ∈ wsX3_what := by decide +kernel
  refine lv_iload_n hx hb dX3_what_0 rfl (lv_at hl 1 rfl) ?_
  refine m_callS C w hl.1 (As := [.int t1]) (rest := []) (c_isTray l D y S0 M F t1) ggX3_what_X3_isTray rfl (by decide +kernel) (by decide +kernel) (by decide +kernel) (show (_ ≠ _ ∧ _ ≠ _ ∧ _ = some 1) by decide +kernel) ⟨Nat.le_of_ble_eq_true rfl, Nat.le_of_ble_eq_true rfl⟩ rfl (Nat.le_of_ble_eq_true rfl) dX3_what_1 ⟨Nat.le_of_ble_eq_true rfl, Nat.le_of_ble_eq_true rfl⟩ (fun v M1 H locs hq w => ?_)
  obtain ⟨rfl, hM1⟩ := hq
  rw [hM1] at w
  clear hM1 M1
  refine W.eq (g2 := F0 m 4 ls [.int (bI (inP t1 12))]) rfl ?_
  refine lv_if_ne (tgt := 10) hx hb dX3_what_4 (by decide) (fun c_4 => ?_) (fun c_4 => ?_)
  · skip
    have n_4 : (inP t1 12) = true := bI_t c_4
    obtain ⟨t, ht, et⟩ := inP_t (by decide) n_4
    obtain ⟨tk, na, ta, hq0, -, hrow⟩ := hC.1.tray hI ht
    have hk13 := (hI.2.2.2.2.2.2.1 t ht).1
    have hk : sH S t < 14 := by omega
    have hz := zT_le hI ht
    have hb1 := hI.1
    have hb2 := hI.2.1
    have hb3 := hI.2.2.1
    have hm0 : sp_what S t1 i1 = wha1 S t i1 := by unfold sp_what; rw [if_neg (by simp [n_4]), et, cN_nI (by omega)]
    refine lv_aload_n hx hb dX3_what_10 rfl (lv_at hl 0 rfl) ?_
    refine m_get C w hC.1.1 (index := 18) (T := TX3) (N := 7) rfl hi_X3 1 (by decide) (by decide +kernel) rfl dX3_what_11 ?_
    refine lv_iload_n hx hb dX3_what_14 rfl (lv_at hl 1 rfl) ?_
    refine m_topi (y := nI t) et ?_
    refine m_hald C w hC.1.2.2.1 t rfl (by omega) (by omega) dX3_what_15 ?_
    refine lv_astore_n (lv' := [(3, .ref (tr t)), (0, .ref h0), (1, .int t1), (2, .int i1)]) hx hb dX3_what_16 rfl hl (by decide) rfl (fun ls hl => ?_)
    refine lv_aload_n hx hb dX3_what_17 rfl (lv_at hl 0 rfl) ?_
    refine m_callV C w hl.1 (As := []) (rest := []) (c_Hold_refusal l D y S0 M F (tr t) (sH S t) (zT S t) tk na ta hq0 hk hz) gX3_what_X0_refusal rfl hq0 (T := TX0) (N := 5) rfl (show (_ = _ ∧ _ ≠ _ ∧ _ ≠ _ ∧ _ = some 0) by decide +kernel) ⟨Nat.le_of_ble_eq_true rfl, Nat.le_of_ble_eq_true rfl⟩ rfl (Nat.le_of_ble_eq_true rfl) dX3_what_18 ⟨Nat.le_of_ble_eq_true rfl, Nat.le_of_ble_eq_true rfl⟩ (fun v M1 H locs hq w => ?_)
    obtain ⟨rfl, hM1⟩ := hq
    rw [hM1] at w
    clear hM1 M1
    refine W.eq (g2 := F0 m 21 ls [.int (fR (sH S t))]) rfl ?_
    refine lv_istore (lv' := [(4, .int (fR (sH S t))), (3, .ref (tr t)), (0, .ref h0), (1, .int t1), (2, .int i1)]) hx hb dX3_what_21 hl (by decide) rfl (fun ls hl => ?_)
    refine lv_iload hx hb dX3_what_23 (lv_at hl 0 rfl) ?_
    refine lv_if_eq (tgt := 31) hx hb dX3_what_25 (by decide) (fun c_25 => ?_) (fun c_25 => ?_)
    · skip
      have h2 : 2 ≤ sH S t := fR_0.mp c_25
      obtain ⟨hr, -, ekd, etr, rfl, rfl⟩ := hrow h2
      have hzT : zT S t = sZ S (rowT S t) := by unfold zT; rw [if_pos h2]
      have hna : M (xn A (rowT S t + 1)) = some (eL y (zT S t) (f (rowT S t + 1))) := by rw [hzT]; exact hC.2.1.1 _ hr
      have hta : M (xt A (rowT S t + 1)) = some (eT y (zT S t) (g (rowT S t + 1))) := by rw [hzT]; exact hC.2.1.2.1 _ hr
      refine lv_aload_n hx hb dX3_what_31 rfl (lv_at hl 1 rfl) ?_
      refine lv_iload_n hx hb dX3_what_32 rfl (lv_at hl 4 rfl) ?_
      refine m_callV C w hl.1 (As := [.int i1]) (rest := []) (c_Hold_hasPlace l D y S0 M F (tr t) (sH S t) (zT S t) tk (xn A (rowT S t + 1)) (xt A (rowT S t + 1)) hq0 hk hz i1) gX3_what_X0_hasPlace rfl hq0 (T := TX0) (N := 5) rfl (show (_ = _ ∧ _ ≠ _ ∧ _ ≠ _ ∧ _ = some 1) by decide +kernel) ⟨Nat.le_of_ble_eq_true rfl, Nat.le_of_ble_eq_true rfl⟩ rfl (Nat.le_of_ble_eq_true rfl) dX3_what_33 ⟨Nat.le_of_ble_eq_true rfl, Nat.le_of_ble_eq_true rfl⟩ (fun v M1 H locs hq w => ?_)
      obtain ⟨rfl, hM1⟩ := hq
      rw [hM1] at w
      clear hM1 M1
      refine W.eq (g2 := F0 m 36 ls [.int (bI (inP i1 (zT S t)))]) rfl ?_
      refine lv_if_ne (tgt := 42) hx hb dX3_what_36 (by decide) (fun c_36 => ?_) (fun c_36 => ?_)
      · skip
        have n_36 : (inP i1 (zT S t)) = true := bI_t c_36
        obtain ⟨i, hi, ei⟩ := inP_t (by omega) n_36
        have hxv := (hI.2.2.2.1 _ hr).2.2.2 i (by omega)
        have hgx := (hR.1 _ i hr (show i < sZ S (rowT S t) by omega)).2
        have hfx := (hR.1 _ i hr (show i < sZ S (rowT S t) by omega)).1
        have hat : atx S t i1 = sC S (rowT S t) i := by unfold atx; rw [ei, cN_nI (by omega)]
        refine lv_aload_n hx hb dX3_what_42 rfl (lv_at hl 1 rfl) ?_
        refine m_callV C w hl.1 (As := []) (rest := []) (c_Hold_isN l D y S0 M F (tr t) (sH S t) (zT S t) tk (xn A (rowT S t + 1)) (xt A (rowT S t + 1)) hq0 hk hz) gX3_what_X0_isOfNumbers rfl hq0 (T := TX0) (N := 5) rfl (show (_ = _ ∧ _ ≠ _ ∧ _ ≠ _ ∧ _ = some 0) by decide +kernel) ⟨Nat.le_of_ble_eq_true rfl, Nat.le_of_ble_eq_true rfl⟩ rfl (Nat.le_of_ble_eq_true rfl) dX3_what_43 ⟨Nat.le_of_ble_eq_true rfl, Nat.le_of_ble_eq_true rfl⟩ (fun v M1 H locs hq w => ?_)
        obtain ⟨rfl, hM1⟩ := hq
        rw [hM1] at w
        clear hM1 M1
        refine W.eq (g2 := F0 m 46 ls [.int (bI (isN (sH S t)))]) rfl ?_
        refine lv_if_eq (tgt := 51) hx hb dX3_what_46 (by decide) (fun c_46 => ?_) (fun c_46 => ?_)
        · skip
          have n_46 : (isN (sH S t)) = false := bI_f c_46
          refine lv_aload_n hx hb dX3_what_51 rfl (lv_at hl 1 rfl) ?_
          refine m_getN C w hq0 (index := 73) (host := "BeadBench") (T := TX0) (N := 5) rfl hi_X0 4 (by decide) (by decide +kernel) rfl dX3_what_52 ?_
          refine lv_iload_n hx hb dX3_what_55 rfl (lv_at hl 4 rfl) ?_
          refine m_topi (y := nI i) ei ?_
          refine m_tald C w hta i rfl (by omega) (by omega) dX3_what_56 ?_
          refine mq_astore (lv' := [(5, va_rf ((g (rowT S t + 1)) i)), (4, .int (fR (sH S t))), (3, .ref (tr t)), (0, .ref h0), (1, .int t1), (2, .int i1)]) hx hb dX3_what_57 hl (by decide) rfl (fun ls hl => ?_)
          refine mq_aload hx hb dX3_what_59 (lv_at hl 0 rfl) ?_
          rcases th_cases (A := A) hI hxv with ⟨e0, h9⟩ | ⟨pz, p1, p2, e0, ex, hk10⟩ | ⟨r2, hr2, e0, ex, hk10, hk6, -⟩
          · skip
            rw [hgx, e0] at hl ⊢
            refine lv_ifnonnullN hx hb dX3_what_61 ?_
            refine lv_iconst (v := 0) hx hb dX3_what_64 (by decide) ?_
            refine lv_goto (tgt := 73) hx hb dX3_what_65 (by decide) ?_
            exact m_iret C w dX3_what_73 (by omega) (by omega) (⟨by
              rw [hm0]
              unfold wha1
              rw [if_neg (by omega), if_neg (by rw [n_36]; decide), if_neg (by rw [n_46]; decide), hat]
              have hx0 : sC S (rowT S t) i = 0 := by
                rcases h9 with q | q
                · have := isN_f n_46 h2; omega
                · exact q
              rw [if_pos hx0], rfl⟩)
          · skip
            rw [hgx, e0] at hl ⊢
            have hpc := hC.1.2.2.2.2.2.2.1 pz p1 p2
            refine lv_ifnonnull (tgt := 68) hx hb dX3_what_61 (by decide) ?_
            refine lv_aload hx hb dX3_what_68 (lv_at hl 0 rfl) ?_
            refine m_callU C w hl.1 (As := []) (rest := []) (c_Piece_sort l D y S0 M F (xp A pz) (nI (sS S pz + 1)) (nI pz) (sL S pz) hpc) (va_cwA (owner := "BeadBench$Thing") (x := ⟨"BeadBench$Thing", "sortOfThing", "()I"⟩) 0 C.2.2.2.2.1 gX3_what_X1_sortOfThing_u128X1 rfl rfl rfl (C.2.2.2.2.2.2.2.1.2.1 _ (by decide +kernel)) (by decide +kernel) ⟨Nat.le_of_ble_eq_true rfl, Nat.le_of_ble_eq_true rfl⟩) hpc (T := TX1) (N := 3) rfl rfl (Nat.le_of_ble_eq_true rfl) dX3_what_70 ⟨Nat.le_of_ble_eq_true rfl, Nat.le_of_ble_eq_true rfl⟩ (fun v M1 H locs hq w => ?_)
            obtain ⟨rfl, hM1⟩ := hq
            rw [hM1] at w
            clear hM1 M1
            refine W.eq (g2 := F0 m 73 ls [.int (nI (sS S pz + 1))]) rfl ?_
            exact m_iret C w dX3_what_73 (by omega) (by omega) (⟨by
              rw [hm0]
              unfold wha1
              rw [if_neg (by omega), if_neg (by rw [n_36]; decide), if_neg (by rw [n_46]; decide), hat]
              rw [ex, if_neg (lN_ne (by omega) p1), if_neg (lN_nn (by omega)), lN_pN (by omega)], rfl⟩)
          · skip
            rw [hgx, e0] at hl ⊢
            have hrc := hC.1.2.2.2.2.2.1 r2 hr2
            have hz2 : sZ S r2 ≤ 64 := (hI.2.2.2.1 r2 hr2).2.2.1
            have hk2 := (hI.2.2.2.1 r2 hr2).2.1
            refine lv_ifnonnull (tgt := 68) hx hb dX3_what_61 (by decide) ?_
            refine lv_aload hx hb dX3_what_68 (lv_at hl 0 rfl) ?_
            refine m_callU C w hl.1 (As := []) (rest := []) (c_Hold_sort l D y S0 M F (xr A r2)) (va_cwA (owner := "BeadBench$Thing") (x := ⟨"BeadBench$Thing", "sortOfThing", "()I"⟩) 0 C.2.2.2.2.1 gX3_what_X0_sortOfThing_u128X0 rfl rfl rfl (C.2.2.2.2.2.2.2.1.2.1 _ (by decide +kernel)) (by decide +kernel) ⟨Nat.le_of_ble_eq_true rfl, Nat.le_of_ble_eq_true rfl⟩) hrc (T := TX0) (N := 5) rfl rfl (Nat.le_of_ble_eq_true rfl) dX3_what_70 ⟨Nat.le_of_ble_eq_true rfl, Nat.le_of_ble_eq_true rfl⟩ (fun v M1 H locs hq w => ?_)
            obtain ⟨rfl, hM1⟩ := hq
            rw [hM1] at w
            clear hM1 M1
            refine W.eq (g2 := F0 m 73 ls [.int 6]) rfl ?_
            exact m_iret C w dX3_what_73 (by omega) (by omega) (⟨by
              rw [hm0]
              unfold wha1
              rw [if_neg (by omega), if_neg (by rw [n_36]; decide), if_neg (by rw [n_46]; decide), hat]
              rw [ex, if_neg (neg_ne (by omega)), if_pos (neg_lt (by omega))], rfl⟩)
        · skip
          have n_46 : (isN (sH S t)) = true := bI_t c_46
          refine lv_iconst (v := 1) hx hb dX3_what_49 (by decide) ?_
          exact m_iret C w dX3_what_50 (by omega) (by omega) (⟨by rw [hm0]; unfold wha1; rw [if_neg (by omega), if_neg (by rw [n_36]; decide), if_pos n_46], rfl⟩)
      · skip
        have n_36 : (inP i1 (zT S t)) = false := bI_f c_36
        refine lv_bipush (v := (-4)) hx hb dX3_what_39 (by decide) ?_
        exact m_iret C w dX3_what_41 (by omega) (by omega) (⟨by rw [hm0]; unfold wha1; rw [if_neg (by omega), if_pos n_36], rfl⟩)
    · skip
      refine lv_iload hx hb dX3_what_28 (lv_at hl 0 rfl) ?_
      exact m_iret C w dX3_what_30 (by omega) (by omega) (⟨by rw [hm0]; unfold wha1; rw [if_pos (by have := mt fR_0.mpr c_25; omega)], rfl⟩)
  · skip
    have n_4 : (inP t1 12) = false := bI_f c_4
    refine lv_bipush (v := (-6)) hx hb dX3_what_7 (by decide) ?_
    exact m_iret C w dX3_what_9 (by omega) (by omega) (⟨by unfold sp_what; rw [if_pos (by simp [n_4])], rfl⟩)
set_option maxRecDepth 100000 in
set_option maxHeartbeats 4000000 in
theorem c_at (l : Launch) (D : va_G) (y : mY) (S0 : Nat) (M F : mp) (h0 : Nat) (A : Ad) (tr : Nat → Nat) (f : Nat → Nat → Int64) (g : Nat → Nat → Option Nat) (S : St) (hC : CW y h0 A tr f g S M) (c0 : Nat) (hI : Inv c0 S) (hR : CR A f g S) (t1 i1 : Int32) : ct l yX3_at wsX3_at 1 28 0 0 D y S0 M F [.ref h0, .int t1, .int i1] (fun v M' => v = some (.long (sp_at S t1 i1)) ∧ M' = M) := by
  refine ct_of cX3_at 5 (some .long) [(0, .ref h0), (1, .int t1), (2, .int i1)] (by decide +kernel) rfl (Nat.le_of_ble_eq_true rfl) rfl ?_
  intro p e s m below meth c ls C hnm hl w
  have hx := C.1
  have hb := C.2.1
  have hi_X0 : ∀ w ∈ u_ws RX0 TX0 5, w ∈ wsX3_at := by decide +kernel
  have hi_X3 : ∀ w ∈ u_ws RX3 TX3 7, w ∈ wsX3_at := by decide +kernel
  refine lv_iload_n hx hb dX3_at_0 rfl (lv_at hl 1 rfl) ?_
  refine m_callS C w hl.1 (As := [.int t1]) (rest := []) (c_isTray l D y S0 M F t1) ggX3_at_X3_isTray rfl (by decide +kernel) (by decide +kernel) (by decide +kernel) (show (_ ≠ _ ∧ _ ≠ _ ∧ _ = some 1) by decide +kernel) ⟨Nat.le_of_ble_eq_true rfl, Nat.le_of_ble_eq_true rfl⟩ rfl (Nat.le_of_ble_eq_true rfl) dX3_at_1 ⟨Nat.le_of_ble_eq_true rfl, Nat.le_of_ble_eq_true rfl⟩ (fun v M1 H locs hq w => ?_)
  obtain ⟨rfl, hM1⟩ := hq
  rw [hM1] at w
  clear hM1 M1
  refine W.eq (g2 := F0 m 4 ls [.int (bI (inP t1 12))]) rfl ?_
  refine lv_if_eq (tgt := 20) hx hb dX3_at_4 (by decide) (fun c_4 => ?_) (fun c_4 => ?_)
  · skip
    have n_4 : (inP t1 12) = false := bI_f c_4
    refine lv_lconst (v := 0) hx hb dX3_at_20 (by decide) ?_
    exact m_lret C w dX3_at_21 (by omega) (by omega) (⟨by unfold sp_at; rw [if_pos n_4], rfl⟩)
  · skip
    have n_4 : (inP t1 12) = true := bI_t c_4
    obtain ⟨t, ht, et⟩ := inP_t (by decide) n_4
    obtain ⟨tk, na, ta, hq0, -, hrow⟩ := hC.1.tray hI ht
    have hk13 := (hI.2.2.2.2.2.2.1 t ht).1
    have hk : sH S t < 14 := by omega
    have hz := zT_le hI ht
    have hb1 := hI.1
    have hb2 := hI.2.1
    have hb3 := hI.2.2.1
    have hm0 : sp_at S t1 i1 = at1 S t i1 := by unfold sp_at; rw [if_neg (by simp [n_4]), et, cN_nI (by omega)]
    refine lv_aload_n hx hb dX3_at_7 rfl (lv_at hl 0 rfl) ?_
    refine m_get C w hC.1.1 (index := 18) (T := TX3) (N := 7) rfl hi_X3 1 (by decide) (by decide +kernel) rfl dX3_at_8 ?_
    refine lv_iload_n hx hb dX3_at_11 rfl (lv_at hl 1 rfl) ?_
    refine m_topi (y := nI t) et ?_
    refine m_hald C w hC.1.2.2.1 t rfl (by omega) (by omega) dX3_at_12 ?_
    refine lv_iload_n hx hb dX3_at_13 rfl (lv_at hl 2 rfl) ?_
    refine m_callV C w hl.1 (As := [.int i1]) (rest := []) (c_Hold_hasPlace l D y S0 M F (tr t) (sH S t) (zT S t) tk na ta hq0 hk hz i1) gX3_at_X0_hasPlace rfl hq0 (T := TX0) (N := 5) rfl (show (_ = _ ∧ _ ≠ _ ∧ _ ≠ _ ∧ _ = some 1) by decide +kernel) ⟨Nat.le_of_ble_eq_true rfl, Nat.le_of_ble_eq_true rfl⟩ rfl (Nat.le_of_ble_eq_true rfl) dX3_at_14 ⟨Nat.le_of_ble_eq_true rfl, Nat.le_of_ble_eq_true rfl⟩ (fun v M1 H locs hq w => ?_)
    obtain ⟨rfl, hM1⟩ := hq
    rw [hM1] at w
    clear hM1 M1
    refine W.eq (g2 := F0 m 17 ls [.int (bI (inP i1 (zT S t)))]) rfl ?_
    refine lv_if_ne (tgt := 22) hx hb dX3_at_17 (by decide) (fun c_17 => ?_) (fun c_17 => ?_)
    · skip
      have n_17 : (inP i1 (zT S t)) = true := bI_t c_17
      obtain ⟨i, hi, ei⟩ := inP_t (by omega) n_17
      have h2 : 2 ≤ sH S t := Classical.byContradiction fun q => by unfold zT at hi; rw [if_neg q] at hi; omega
      obtain ⟨hr, -, ekd, etr, rfl, rfl⟩ := hrow h2
      have hzT : zT S t = sZ S (rowT S t) := by unfold zT; rw [if_pos h2]
      have hna : M (xn A (rowT S t + 1)) = some (eL y (zT S t) (f (rowT S t + 1))) := by rw [hzT]; exact hC.2.1.1 _ hr
      have hta : M (xt A (rowT S t + 1)) = some (eT y (zT S t) (g (rowT S t + 1))) := by rw [hzT]; exact hC.2.1.2.1 _ hr
      have hxv := (hI.2.2.2.1 _ hr).2.2.2 i (by omega)
      have hgx := (hR.1 _ i hr (show i < sZ S (rowT S t) by omega)).2
      have hfx := (hR.1 _ i hr (show i < sZ S (rowT S t) by omega)).1
      have hat : atx S t i1 = sC S (rowT S t) i := by unfold atx; rw [ei, cN_nI (by omega)]
      refine lv_aload_n hx hb dX3_at_22 rfl (lv_at hl 0 rfl) ?_
      refine m_get C w hC.1.1 (index := 18) (T := TX3) (N := 7) rfl hi_X3 1 (by decide) (by decide +kernel) rfl dX3_at_23 ?_
      refine lv_iload_n hx hb dX3_at_26 rfl (lv_at hl 1 rfl) ?_
      refine m_topi (y := nI t) et ?_
      refine m_hald C w hC.1.2.2.1 t rfl (by omega) (by omega) dX3_at_27 ?_
      refine lv_astore_n (lv' := [(3, .ref (tr t)), (0, .ref h0), (1, .int t1), (2, .int i1)]) hx hb dX3_at_28 rfl hl (by decide) rfl (fun ls hl => ?_)
      refine lv_aload_n hx hb dX3_at_29 rfl (lv_at hl 0 rfl) ?_
      refine m_getN C w hq0 (index := 73) (host := "BeadBench") (T := TX0) (N := 5) rfl hi_X0 4 (by decide) (by decide +kernel) rfl dX3_at_30 ?_
      refine lv_iload_n hx hb dX3_at_33 rfl (lv_at hl 3 rfl) ?_
      refine m_topi (y := nI i) ei ?_
      refine m_tald C w hta i rfl (by omega) (by omega) dX3_at_34 ?_
      refine mq_astore (lv' := [(4, va_rf ((g (rowT S t + 1)) i)), (3, .ref (tr t)), (0, .ref h0), (1, .int t1), (2, .int i1)]) hx hb dX3_at_35 hl (by decide) rfl (fun ls hl => ?_)
      refine mq_aload hx hb dX3_at_37 (lv_at hl 0 rfl) ?_
      rcases th_cases (A := A) hI hxv with ⟨e0, h9⟩ | ⟨pz, p1, p2, e0, ex, hk10⟩ | ⟨r2, hr2, e0, ex, hk10, hk6, -⟩
      · skip
        rw [hgx, e0] at hl ⊢
        refine lv_ifnonnullN hx hb dX3_at_39 ?_
        refine lv_aload_n hx hb dX3_at_42 rfl (lv_at hl 1 rfl) ?_
        refine m_getN C w hq0 (index := 61) (host := "BeadBench") (T := TX0) (N := 5) rfl hi_X0 3 (by decide) (by decide +kernel) rfl dX3_at_43 ?_
        refine lv_iload_n hx hb dX3_at_46 rfl (lv_at hl 4 rfl) ?_
        refine m_topi (y := nI i) ei ?_
        refine m_lald C w hna i rfl (by omega) (by omega) dX3_at_47 ?_
        refine lv_goto (tgt := 57) hx hb dX3_at_48 (by decide) ?_
        exact m_lret C w dX3_at_57 (by omega) (by omega) (⟨by
          rw [hm0]
          unfold at1
          rw [if_neg (by rw [n_17]; decide)]
          rw [hfx, hat]
          unfold nu
          by_cases k9 : sK S (rowT S t) ≤ 9
          · rw [if_pos k9, if_pos (by unfold isN; simp; omega)]
          · rw [if_neg k9, if_neg (by unfold isN; simp; omega), if_pos (h9.resolve_left k9)], rfl⟩)
      · skip
        rw [hgx, e0] at hl ⊢
        have hpc := hC.1.2.2.2.2.2.2.1 pz p1 p2
        refine lv_ifnonnull (tgt := 51) hx hb dX3_at_39 (by decide) ?_
        refine lv_aload hx hb dX3_at_51 (lv_at hl 0 rfl) ?_
        refine m_callU C w hl.1 (As := []) (rest := []) (c_Piece_count l D y S0 M F (xp A pz) (nI (sS S pz + 1)) (nI pz) (sL S pz) hpc) (va_cwA (owner := "BeadBench$Thing") (x := ⟨"BeadBench$Thing", "count", "()I"⟩) 0 C.2.2.2.2.1 gX3_at_X1_count_u133X1 rfl rfl rfl (C.2.2.2.2.2.2.2.1.2.1 _ (by decide +kernel)) (by decide +kernel) ⟨Nat.le_of_ble_eq_true rfl, Nat.le_of_ble_eq_true rfl⟩) hpc (T := TX1) (N := 3) rfl rfl (Nat.le_of_ble_eq_true rfl) dX3_at_53 ⟨Nat.le_of_ble_eq_true rfl, Nat.le_of_ble_eq_true rfl⟩ (fun v M1 H locs hq w => ?_)
        obtain ⟨rfl, hM1⟩ := hq
        rw [hM1] at w
        clear hM1 M1
        refine W.eq (g2 := F0 m 56 ls [.int (nI pz)]) rfl ?_
        refine lv_i2l (v := lN pz) hx hb dX3_at_56 (nI_l (by omega)) ?_
        exact m_lret C w dX3_at_57 (by omega) (by omega) (⟨by
          rw [hm0]
          unfold at1
          rw [if_neg (by rw [n_17]; decide)]
          rw [if_neg (by unfold isN; simp; omega), hat, ex, if_neg (lN_ne (by omega) p1), if_neg (lN_nn (by omega))], rfl⟩)
      · skip
        rw [hgx, e0] at hl ⊢
        have hrc := hC.1.2.2.2.2.2.1 r2 hr2
        have hz2 : sZ S r2 ≤ 64 := (hI.2.2.2.1 r2 hr2).2.2.1
        have hk2 := (hI.2.2.2.1 r2 hr2).2.1
        refine lv_ifnonnull (tgt := 51) hx hb dX3_at_39 (by decide) ?_
        refine lv_aload hx hb dX3_at_51 (lv_at hl 0 rfl) ?_
        refine m_callU C w hl.1 (As := []) (rest := []) (c_Hold_count l D y S0 M F (xr A r2) (sK S r2) (sZ S r2) 0 (xn A (r2 + 1)) (xt A (r2 + 1)) hrc (by omega) hz2) (va_cwA (owner := "BeadBench$Thing") (x := ⟨"BeadBench$Thing", "count", "()I"⟩) 0 C.2.2.2.2.1 gX3_at_X0_count_u133X0 rfl rfl rfl (C.2.2.2.2.2.2.2.1.2.1 _ (by decide +kernel)) (by decide +kernel) ⟨Nat.le_of_ble_eq_true rfl, Nat.le_of_ble_eq_true rfl⟩) hrc (T := TX0) (N := 5) rfl rfl (Nat.le_of_ble_eq_true rfl) dX3_at_53 ⟨Nat.le_of_ble_eq_true rfl, Nat.le_of_ble_eq_true rfl⟩ (fun v M1 H locs hq w => ?_)
        obtain ⟨rfl, hM1⟩ := hq
        rw [hM1] at w
        clear hM1 M1
        refine W.eq (g2 := F0 m 56 ls [.int (nI (sZ S r2))]) rfl ?_
        refine lv_i2l (v := lN (sZ S r2)) hx hb dX3_at_56 (nI_l (by omega)) ?_
        exact m_lret C w dX3_at_57 (by omega) (by omega) (⟨by
          rw [hm0]
          unfold at1
          rw [if_neg (by rw [n_17]; decide)]
          rw [if_neg (by unfold isN; simp; omega), hat, ex, if_neg (neg_ne (by omega)), if_pos (neg_lt (by omega)), neg_rN (by omega)], rfl⟩)
    · skip
      have n_17 : (inP i1 (zT S t)) = false := bI_f c_17
      refine lv_lconst (v := 0) hx hb dX3_at_20 (by decide) ?_
      exact m_lret C w dX3_at_21 (by omega) (by omega) (⟨by rw [hm0]; unfold at1; rw [if_pos n_17], rfl⟩)
set_option maxRecDepth 100000 in
set_option maxHeartbeats 4000000 in
theorem c_polished (l : Launch) (D : va_G) (y : mY) (S0 : Nat) (M F : mp) (h0 : Nat) (A : Ad) (tr : Nat → Nat) (f : Nat → Nat → Int64) (g : Nat → Nat → Option Nat) (S : St) (hC : CW y h0 A tr f g S M) (c0 : Nat) (hI : Inv c0 S) (hR : CR A f g S) (t1 i1 : Int32) : ct l yX3_polished wsX3_polished 1 28 0 0 D y S0 M F [.ref h0, .int t1, .int i1] (fun v M' => v = some (.int (sp_polished S t1 i1)) ∧ M' = M) := by
  refine ct_of cX3_polished 4 (some .int) [(0, .ref h0), (1, .int t1), (2, .int i1)] (by decide +kernel) rfl (Nat.le_of_ble_eq_true rfl) rfl ?_
  intro p e s m below meth c ls C hnm hl w
  have hx := C.1
  have hb := C.2.1
  have hi_X0 : ∀ w ∈ u_ws RX0 TX0 5, w ∈ wsX3_polished := by decide +kernel
  have hi_X3 : ∀ w ∈ u_ws RX3 TX3 7, w ∈ wsX3_polished := by decide +kernel
  refine lv_iload_n hx hb dX3_polished_0 rfl (lv_at hl 1 rfl) ?_
  refine m_callS C w hl.1 (As := [.int t1]) (rest := []) (c_isTray l D y S0 M F t1) ggX3_polished_X3_isTray rfl (by decide +kernel) (by decide +kernel) (by decide +kernel) (show (_ ≠ _ ∧ _ ≠ _ ∧ _ = some 1) by decide +kernel) ⟨Nat.le_of_ble_eq_true rfl, Nat.le_of_ble_eq_true rfl⟩ rfl (Nat.le_of_ble_eq_true rfl) dX3_polished_1 ⟨Nat.le_of_ble_eq_true rfl, Nat.le_of_ble_eq_true rfl⟩ (fun v M1 H locs hq w => ?_)
  obtain ⟨rfl, hM1⟩ := hq
  rw [hM1] at w
  clear hM1 M1
  refine W.eq (g2 := F0 m 4 ls [.int (bI (inP t1 12))]) rfl ?_
  refine lv_if_eq (tgt := 20) hx hb dX3_polished_4 (by decide) (fun c_4 => ?_) (fun c_4 => ?_)
  · skip
    have n_4 : (inP t1 12) = false := bI_f c_4
    refine lv_iconst (v := 0) hx hb dX3_polished_20 (by decide) ?_
    exact m_iret C w dX3_polished_21 (by omega) (by omega) (⟨by unfold sp_polished; rw [if_pos n_4], rfl⟩)
  · skip
    have n_4 : (inP t1 12) = true := bI_t c_4
    obtain ⟨t, ht, et⟩ := inP_t (by decide) n_4
    obtain ⟨tk, na, ta, hq0, -, hrow⟩ := hC.1.tray hI ht
    have hk13 := (hI.2.2.2.2.2.2.1 t ht).1
    have hk : sH S t < 14 := by omega
    have hz := zT_le hI ht
    have hb1 := hI.1
    have hb2 := hI.2.1
    have hb3 := hI.2.2.1
    have hm0 : sp_polished S t1 i1 = pod1 S t i1 := by unfold sp_polished; rw [if_neg (by simp [n_4]), et, cN_nI (by omega)]
    refine lv_aload_n hx hb dX3_polished_7 rfl (lv_at hl 0 rfl) ?_
    refine m_get C w hC.1.1 (index := 18) (T := TX3) (N := 7) rfl hi_X3 1 (by decide) (by decide +kernel) rfl dX3_polished_8 ?_
    refine lv_iload_n hx hb dX3_polished_11 rfl (lv_at hl 1 rfl) ?_
    refine m_topi (y := nI t) et ?_
    refine m_hald C w hC.1.2.2.1 t rfl (by omega) (by omega) dX3_polished_12 ?_
    refine lv_iload_n hx hb dX3_polished_13 rfl (lv_at hl 2 rfl) ?_
    refine m_callV C w hl.1 (As := [.int i1]) (rest := []) (c_Hold_hasPlace l D y S0 M F (tr t) (sH S t) (zT S t) tk na ta hq0 hk hz i1) gX3_polished_X0_hasPlace rfl hq0 (T := TX0) (N := 5) rfl (show (_ = _ ∧ _ ≠ _ ∧ _ ≠ _ ∧ _ = some 1) by decide +kernel) ⟨Nat.le_of_ble_eq_true rfl, Nat.le_of_ble_eq_true rfl⟩ rfl (Nat.le_of_ble_eq_true rfl) dX3_polished_14 ⟨Nat.le_of_ble_eq_true rfl, Nat.le_of_ble_eq_true rfl⟩ (fun v M1 H locs hq w => ?_)
    obtain ⟨rfl, hM1⟩ := hq
    rw [hM1] at w
    clear hM1 M1
    refine W.eq (g2 := F0 m 17 ls [.int (bI (inP i1 (zT S t)))]) rfl ?_
    refine lv_if_ne (tgt := 22) hx hb dX3_polished_17 (by decide) (fun c_17 => ?_) (fun c_17 => ?_)
    · skip
      have n_17 : (inP i1 (zT S t)) = true := bI_t c_17
      obtain ⟨i, hi, ei⟩ := inP_t (by omega) n_17
      have h2 : 2 ≤ sH S t := Classical.byContradiction fun q => by unfold zT at hi; rw [if_neg q] at hi; omega
      obtain ⟨hr, -, ekd, etr, rfl, rfl⟩ := hrow h2
      have hzT : zT S t = sZ S (rowT S t) := by unfold zT; rw [if_pos h2]
      have hna : M (xn A (rowT S t + 1)) = some (eL y (zT S t) (f (rowT S t + 1))) := by rw [hzT]; exact hC.2.1.1 _ hr
      have hta : M (xt A (rowT S t + 1)) = some (eT y (zT S t) (g (rowT S t + 1))) := by rw [hzT]; exact hC.2.1.2.1 _ hr
      have hxv := (hI.2.2.2.1 _ hr).2.2.2 i (by omega)
      have hgx := (hR.1 _ i hr (show i < sZ S (rowT S t) by omega)).2
      have hfx := (hR.1 _ i hr (show i < sZ S (rowT S t) by omega)).1
      have hat : atx S t i1 = sC S (rowT S t) i := by unfold atx; rw [ei, cN_nI (by omega)]
      refine lv_aload_n hx hb dX3_polished_22 rfl (lv_at hl 0 rfl) ?_
      refine m_get C w hC.1.1 (index := 18) (T := TX3) (N := 7) rfl hi_X3 1 (by decide) (by decide +kernel) rfl dX3_polished_23 ?_
      refine lv_iload_n hx hb dX3_polished_26 rfl (lv_at hl 1 rfl) ?_
      refine m_topi (y := nI t) et ?_
      refine m_hald C w hC.1.2.2.1 t rfl (by omega) (by omega) dX3_polished_27 ?_
      refine m_getN C w hq0 (index := 73) (host := "BeadBench") (T := TX0) (N := 5) rfl hi_X0 4 (by decide) (by decide +kernel) rfl dX3_polished_28 ?_
      refine lv_iload_n hx hb dX3_polished_31 rfl (lv_at hl 2 rfl) ?_
      refine m_topi (y := nI i) ei ?_
      refine m_tald C w hta i rfl (by omega) (by omega) dX3_polished_32 ?_
      refine mq_astore_n (lv' := [(3, va_rf ((g (rowT S t + 1)) i)), (0, .ref h0), (1, .int t1), (2, .int i1)]) hx hb dX3_polished_33 rfl hl (by decide) rfl (fun ls hl => ?_)
      refine mq_aload_n hx hb dX3_polished_34 rfl (lv_at hl 0 rfl) ?_
      rcases th_cases (A := A) hI hxv with ⟨e0, h9⟩ | ⟨pz, p1, p2, e0, ex, hk10⟩ | ⟨r2, hr2, e0, ex, hk10, hk6, -⟩
      · skip
        rw [hgx, e0] at hl ⊢
        refine lv_ifnonnullN hx hb dX3_polished_35 ?_
        refine lv_iconst (v := 0) hx hb dX3_polished_38 (by decide) ?_
        refine lv_goto (tgt := 46) hx hb dX3_polished_39 (by decide) ?_
        exact m_iret C w dX3_polished_46 (by omega) (by omega) (⟨by
          rw [hm0]
          unfold pod1
          rw [if_neg (by rw [n_17]; decide)]
          rw [hat]
          by_cases k9 : sK S (rowT S t) ≤ 9
          · rw [if_pos (by unfold isN; simp; omega)]
          · rw [if_neg (by unfold isN; simp; omega), if_pos (h9.resolve_left k9)], rfl⟩)
      · skip
        rw [hgx, e0] at hl ⊢
        have hpc := hC.1.2.2.2.2.2.2.1 pz p1 p2
        refine lv_ifnonnull (tgt := 42) hx hb dX3_polished_35 (by decide) ?_
        refine lv_aload_n hx hb dX3_polished_42 rfl (lv_at hl 0 rfl) ?_
        refine m_callU C w hl.1 (As := []) (rest := []) (c_Piece_shine l D y S0 M F (xp A pz) (nI (sS S pz + 1)) (nI pz) (sL S pz) hpc) (va_cwA (owner := "BeadBench$Thing") (x := ⟨"BeadBench$Thing", "shine", "()I"⟩) 0 C.2.2.2.2.1 gX3_polished_X1_shine_u136X1 rfl rfl rfl (C.2.2.2.2.2.2.2.1.2.1 _ (by decide +kernel)) (by decide +kernel) ⟨Nat.le_of_ble_eq_true rfl, Nat.le_of_ble_eq_true rfl⟩) hpc (T := TX1) (N := 3) rfl rfl (Nat.le_of_ble_eq_true rfl) dX3_polished_43 ⟨Nat.le_of_ble_eq_true rfl, Nat.le_of_ble_eq_true rfl⟩ (fun v M1 H locs hq w => ?_)
        obtain ⟨rfl, hM1⟩ := hq
        rw [hM1] at w
        clear hM1 M1
        refine W.eq (g2 := F0 m 46 ls [.int (sL S pz)]) rfl ?_
        exact m_iret C w dX3_polished_46 (by omega) (by omega) (⟨by
          rw [hm0]
          unfold pod1
          rw [if_neg (by rw [n_17]; decide)]
          rw [if_neg (by unfold isN; simp; omega), hat, ex, if_neg (lN_ne (by omega) p1), if_neg (lN_nn (by omega)), lN_pN (by omega)], rfl⟩)
      · skip
        rw [hgx, e0] at hl ⊢
        have hrc := hC.1.2.2.2.2.2.1 r2 hr2
        have hz2 : sZ S r2 ≤ 64 := (hI.2.2.2.1 r2 hr2).2.2.1
        have hk2 := (hI.2.2.2.1 r2 hr2).2.1
        refine lv_ifnonnull (tgt := 42) hx hb dX3_polished_35 (by decide) ?_
        refine lv_aload_n hx hb dX3_polished_42 rfl (lv_at hl 0 rfl) ?_
        refine m_callU C w hl.1 (As := []) (rest := []) (c_Hold_shine l D y S0 M F (xr A r2) (sK S r2) (sZ S r2) 0 (xn A (r2 + 1)) (xt A (r2 + 1)) hrc (f (r2 + 1)) (hC.2.1.1 (r2 + 1) hr2) hz2) (va_cwA (owner := "BeadBench$Thing") (x := ⟨"BeadBench$Thing", "shine", "()I"⟩) 0 C.2.2.2.2.1 gX3_polished_X0_shine_u136X0 rfl rfl rfl (C.2.2.2.2.2.2.2.1.2.1 _ (by decide +kernel)) (by decide +kernel) ⟨Nat.le_of_ble_eq_true rfl, Nat.le_of_ble_eq_true rfl⟩) hrc (T := TX0) (N := 5) rfl rfl (Nat.le_of_ble_eq_true rfl) dX3_polished_43 ⟨Nat.le_of_ble_eq_true rfl, Nat.le_of_ble_eq_true rfl⟩ (fun v M1 H locs hq w => ?_)
        obtain ⟨rfl, hM1⟩ := hq
        rw [hM1] at w
        clear hM1 M1
        refine W.eq (g2 := F0 m 46 ls [.int (sumW (f (r2 + 1)) (sZ S r2))]) rfl ?_
        exact m_iret C w dX3_polished_46 (by omega) (by omega) (⟨by
          rw [hm0]
          unfold pod1
          rw [if_neg (by rw [n_17]; decide)]
          rw [if_neg (by unfold isN; simp; omega), hat, ex, if_neg (neg_ne (by omega)), if_pos (neg_lt (by omega)), neg_rN (by omega)]
          refine congrArg (fun z => some (Value.int z)) (sumW_congr (fun j hj => ?_))
          rw [(hR.1 r2 j hr2 hj).1]
          unfold nu
          rw [if_pos (by omega)], rfl⟩)
    · skip
      have n_17 : (inP i1 (zT S t)) = false := bI_f c_17
      refine lv_iconst (v := 0) hx hb dX3_polished_20 (by decide) ?_
      exact m_iret C w dX3_polished_21 (by omega) (by omega) (⟨by rw [hm0]; unfold pod1; rw [if_pos n_17], rfl⟩)
set_option maxRecDepth 100000 in
set_option maxHeartbeats 4000000 in
theorem c_polish (l : Launch) (D : va_G) (y : mY) (S0 : Nat) (M F : mp) (h0 : Nat) (A : Ad) (tr : Nat → Nat) (f : Nat → Nat → Int64) (g : Nat → Nat → Option Nat) (S : St) (hC : CW y h0 A tr f g S M) (c0 : Nat) (hI : Inv c0 S) (hR : CR A f g S) (t1 i1 m1 : Int32) : ct l yX3_polish wsX3_polish 1 28 0 0 D y S0 M F [.ref h0, .int t1, .int i1, .int m1] (fun v M' => v = some (.int (sp_polish S t1 i1 m1).1) ∧ RC y h0 (sp_polish S t1 i1 m1).2 M') := by
  refine ct_of cX3_polish 8 (some .int) [(0, .ref h0), (1, .int t1), (2, .int i1), (3, .int m1)] (by decide +kernel) rfl (Nat.le_of_ble_eq_true rfl) rfl ?_
  intro p e s m below meth c ls C hnm hl w
  have hx := C.1
  have hb := C.2.1
  have hi_X0 : ∀ w ∈ u_ws RX0 TX0 5, w ∈ wsX3_polish := by decide +kernel
  have hi_X1 : ∀ w ∈ u_ws RX1 TX1 3, w ∈ wsX3_polish := by decide +kernel
  have hi_X3 : ∀ w ∈ u_ws RX3 TX3 7, w ∈ wsX3_polish := by decide +kernel
  refine lv_iload_n hx hb dX3_polish_0 rfl (lv_at hl 1 rfl) ?_
  refine m_callS C w hl.1 (As := [.int t1]) (rest := []) (c_isTray l D y S0 M F t1) ggX3_polish_X3_isTray rfl (by decide +kernel) (by decide +kernel) (by decide +kernel) (show (_ ≠ _ ∧ _ ≠ _ ∧ _ = some 1) by decide +kernel) ⟨Nat.le_of_ble_eq_true rfl, Nat.le_of_ble_eq_true rfl⟩ rfl (Nat.le_of_ble_eq_true rfl) dX3_polish_1 ⟨Nat.le_of_ble_eq_true rfl, Nat.le_of_ble_eq_true rfl⟩ (fun v M1 H locs hq w => ?_)
  obtain ⟨rfl, hM1⟩ := hq
  rw [hM1] at w
  clear hM1 M1
  refine W.eq (g2 := F0 m 4 ls [.int (bI (inP t1 12))]) rfl ?_
  refine lv_if_ne (tgt := 10) hx hb dX3_polish_4 (by decide) (fun c_4 => ?_) (fun c_4 => ?_)
  · skip
    have n_4 : (inP t1 12) = true := bI_t c_4
    obtain ⟨t, ht, et⟩ := inP_t (by decide) n_4
    obtain ⟨tk, na, ta, hq0, -, hrow⟩ := hC.1.tray hI ht
    have hk13 := (hI.2.2.2.2.2.2.1 t ht).1
    have hk : sH S t < 14 := by omega
    have hz := zT_le hI ht
    have hb1 := hI.1
    have hb2 := hI.2.1
    have hb3 := hI.2.2.1
    have hm0 : sp_polish S t1 i1 m1 = pol1 S t i1 m1 := by unfold sp_polish; rw [if_neg (by simp [n_4]), et, cN_nI (by omega)]
    refine lv_aload_n hx hb dX3_polish_10 rfl (lv_at hl 0 rfl) ?_
    refine m_get C w hC.1.1 (index := 18) (T := TX3) (N := 7) rfl hi_X3 1 (by decide) (by decide +kernel) rfl dX3_polish_11 ?_
    refine lv_iload_n hx hb dX3_polish_14 rfl (lv_at hl 1 rfl) ?_
    refine m_topi (y := nI t) et ?_
    refine m_hald C w hC.1.2.2.1 t rfl (by omega) (by omega) dX3_polish_15 ?_
    refine lv_astore (lv' := [(4, .ref (tr t)), (0, .ref h0), (1, .int t1), (2, .int i1), (3, .int m1)]) hx hb dX3_polish_16 hl (by decide) rfl (fun ls hl => ?_)
    refine lv_aload hx hb dX3_polish_18 (lv_at hl 0 rfl) ?_
    refine m_callV C w hl.1 (As := []) (rest := []) (c_Hold_refusal l D y S0 M F (tr t) (sH S t) (zT S t) tk na ta hq0 hk hz) gX3_polish_X0_refusal rfl hq0 (T := TX0) (N := 5) rfl (show (_ = _ ∧ _ ≠ _ ∧ _ ≠ _ ∧ _ = some 0) by decide +kernel) ⟨Nat.le_of_ble_eq_true rfl, Nat.le_of_ble_eq_true rfl⟩ rfl (Nat.le_of_ble_eq_true rfl) dX3_polish_20 ⟨Nat.le_of_ble_eq_true rfl, Nat.le_of_ble_eq_true rfl⟩ (fun v M1 H locs hq w => ?_)
    obtain ⟨rfl, hM1⟩ := hq
    rw [hM1] at w
    clear hM1 M1
    refine W.eq (g2 := F0 m 23 ls [.int (fR (sH S t))]) rfl ?_
    refine lv_istore (lv' := [(5, .int (fR (sH S t))), (4, .ref (tr t)), (0, .ref h0), (1, .int t1), (2, .int i1), (3, .int m1)]) hx hb dX3_polish_23 hl (by decide) rfl (fun ls hl => ?_)
    refine lv_iload hx hb dX3_polish_25 (lv_at hl 0 rfl) ?_
    refine lv_if_eq (tgt := 33) hx hb dX3_polish_27 (by decide) (fun c_27 => ?_) (fun c_27 => ?_)
    · skip
      have h2 : 2 ≤ sH S t := fR_0.mp c_27
      obtain ⟨hr, -, ekd, etr, rfl, rfl⟩ := hrow h2
      have hzT : zT S t = sZ S (rowT S t) := by unfold zT; rw [if_pos h2]
      have hna : M (xn A (rowT S t + 1)) = some (eL y (zT S t) (f (rowT S t + 1))) := by rw [hzT]; exact hC.2.1.1 _ hr
      have hta : M (xt A (rowT S t + 1)) = some (eT y (zT S t) (g (rowT S t + 1))) := by rw [hzT]; exact hC.2.1.2.1 _ hr
      refine lv_aload hx hb dX3_polish_33 (lv_at hl 1 rfl) ?_
      refine m_callV C w hl.1 (As := []) (rest := []) (c_Hold_isN l D y S0 M F (tr t) (sH S t) (zT S t) tk (xn A (rowT S t + 1)) (xt A (rowT S t + 1)) hq0 hk hz) gX3_polish_X0_isOfNumbers rfl hq0 (T := TX0) (N := 5) rfl (show (_ = _ ∧ _ ≠ _ ∧ _ ≠ _ ∧ _ = some 0) by decide +kernel) ⟨Nat.le_of_ble_eq_true rfl, Nat.le_of_ble_eq_true rfl⟩ rfl (Nat.le_of_ble_eq_true rfl) dX3_polish_35 ⟨Nat.le_of_ble_eq_true rfl, Nat.le_of_ble_eq_true rfl⟩ (fun v M1 H locs hq w => ?_)
      obtain ⟨rfl, hM1⟩ := hq
      rw [hM1] at w
      clear hM1 M1
      refine W.eq (g2 := F0 m 38 ls [.int (bI (isN (sH S t)))]) rfl ?_
      refine lv_if_ne (tgt := 51) hx hb dX3_polish_38 (by decide) (fun c_38 => ?_) (fun c_38 => ?_)
      · skip
        have n_38 : (isN (sH S t)) = true := bI_t c_38
        refine lv_bipush (v := (-3)) hx hb dX3_polish_51 (by decide) ?_
        exact m_iret C w dX3_polish_53 (by omega) (by omega) (⟨by rw [(show sp_polish S t1 i1 m1 = (-3, S) by rw [hm0]; unfold pol1; rw [if_neg (by omega), if_pos (by first | (simp [n_48]; done) | (simp [n_38]; done))])], by rw [(show sp_polish S t1 i1 m1 = (-3, S) by rw [hm0]; unfold pol1; rw [if_neg (by omega), if_pos (by first | (simp [n_48]; done) | (simp [n_38]; done))])]; exact ⟨A, tr, f, g, hC, hR⟩⟩)
      · skip
        have n_38 : (isN (sH S t)) = false := bI_f c_38
        refine lv_aload hx hb dX3_polish_41 (lv_at hl 1 rfl) ?_
        refine m_getN C w hq0 (index := 43) (host := "BeadBench") (T := TX0) (N := 5) rfl hi_X0 0 (by decide) (by decide +kernel) rfl dX3_polish_43 ?_
        refine lv_bipush (v := 13) hx hb dX3_polish_46 (by decide) ?_
        refine lv_icmp_ne (tgt := 54) hx hb dX3_polish_48 (by decide) (fun c_48 => ?_) (fun c_48 => ?_)
        · skip
          have n_48 : ¬ (sH S t) = 13 := fun h => absurd ((nI_eq (by omega) (by omega)).mpr h) c_48
          refine lv_aload hx hb dX3_polish_54 (lv_at hl 1 rfl) ?_
          refine lv_iload_n hx hb dX3_polish_56 rfl (lv_at hl 4 rfl) ?_
          refine m_callV C w hl.1 (As := [.int i1]) (rest := []) (c_Hold_hasPlace l D y S0 M F (tr t) (sH S t) (zT S t) tk (xn A (rowT S t + 1)) (xt A (rowT S t + 1)) hq0 hk hz i1) gX3_polish_X0_hasPlace rfl hq0 (T := TX0) (N := 5) rfl (show (_ = _ ∧ _ ≠ _ ∧ _ ≠ _ ∧ _ = some 1) by decide +kernel) ⟨Nat.le_of_ble_eq_true rfl, Nat.le_of_ble_eq_true rfl⟩ rfl (Nat.le_of_ble_eq_true rfl) dX3_polish_57 ⟨Nat.le_of_ble_eq_true rfl, Nat.le_of_ble_eq_true rfl⟩ (fun v M1 H locs hq w => ?_)
          obtain ⟨rfl, hM1⟩ := hq
          rw [hM1] at w
          clear hM1 M1
          refine W.eq (g2 := F0 m 60 ls [.int (bI (inP i1 (zT S t)))]) rfl ?_
          refine lv_if_ne (tgt := 66) hx hb dX3_polish_60 (by decide) (fun c_60 => ?_) (fun c_60 => ?_)
          · skip
            have n_60 : (inP i1 (zT S t)) = true := bI_t c_60
            obtain ⟨i, hi, ei⟩ := inP_t (by omega) n_60
            have hxv := (hI.2.2.2.1 _ hr).2.2.2 i (by omega)
            have hgx := (hR.1 _ i hr (show i < sZ S (rowT S t) by omega)).2
            have hfx := (hR.1 _ i hr (show i < sZ S (rowT S t) by omega)).1
            have hat : atx S t i1 = sC S (rowT S t) i := by unfold atx; rw [ei, cN_nI (by omega)]
            refine lv_aload hx hb dX3_polish_66 (lv_at hl 1 rfl) ?_
            refine m_getN C w hq0 (index := 73) (host := "BeadBench") (T := TX0) (N := 5) rfl hi_X0 4 (by decide) (by decide +kernel) rfl dX3_polish_68 ?_
            refine lv_iload_n hx hb dX3_polish_71 rfl (lv_at hl 4 rfl) ?_
            refine m_topi (y := nI i) ei ?_
            refine m_tald C w hta i rfl (by omega) (by omega) dX3_polish_72 ?_
            refine mq_astore (lv' := [(7, va_rf ((g (rowT S t + 1)) i)), (5, .int (fR (sH S t))), (4, .ref (tr t)), (0, .ref h0), (1, .int t1), (2, .int i1), (3, .int m1)]) hx hb dX3_polish_73 hl (by decide) rfl (fun ls hl => ?_)
            refine mq_aload hx hb dX3_polish_75 (lv_at hl 0 rfl) ?_
            rcases th_cases (A := A) hI hxv with ⟨e0, h9⟩ | ⟨pz, p1, p2, e0, ex, hk10⟩ | ⟨r2, hr2, e0, ex, hk10, hk6, k13⟩
            · skip
              rw [hgx, e0] at hl ⊢
              refine lv_instN hx hb dX3_polish_77 ?_
              refine lv_if_eq (tgt := 107) hx hb dX3_polish_80 (by decide) (fun _ => ?_) (fun h => absurd h (by decide))
              refine lv_iconst (v := (-1)) hx hb dX3_polish_107 (by decide) ?_
              exact m_iret C w dX3_polish_108 (by omega) (by omega) (by
                have hx0 : sC S (rowT S t) i = 0 := by
                  rcases h9 with q | q
                  · have := isN_f n_38 h2; omega
                  · exact q
                have hm : sp_polish S t1 i1 m1 = (-1, S) := by
                  rw [hm0]
                  unfold pol1
                  rw [if_neg (by omega), if_neg (by rw [n_38]; simp; exact n_48), if_neg (by rw [n_60]; decide), hat, if_pos hx0]
                exact ⟨by rw [hm], by rw [hm]; exact ⟨A, tr, f, g, hC, hR⟩⟩)
            · skip
              rw [hgx, e0] at hl ⊢
              have hpc := hC.1.2.2.2.2.2.2.1 pz p1 p2
              refine va_instY hx hb C.2.2.2.1 (C.2.2.2.2.1 (.classLink RX3 117 RX1) (by decide +kernel)) (C := RX1) (C.2.2.2.2.2.2.2.1.2.1 _ (by decide +kernel)) (m_recv C w hpc (T := TX1) (N := 3) rfl) dX3_polish_77 ?_
              refine lv_if_eq (tgt := 107) hx hb dX3_polish_80 (by decide) (fun h => absurd h (by decide)) (fun _ => ?_)
              refine lv_aload hx hb dX3_polish_83 (lv_at hl 0 rfl) ?_
              refine va_castY hx hb C.2.2.2.1 (C.2.2.2.2.1 (.classLink RX3 117 RX1) (by decide +kernel)) (C := RX1) (C.2.2.2.2.2.2.2.1.2.1 _ (by decide +kernel)) (m_recv C w hpc (T := TX1) (N := 3) rfl) dX3_polish_85 ?_
              refine lv_astore (lv' := [(6, .ref (xp A pz)), (7, .ref (xp A pz)), (5, .int (fR (sH S t))), (4, .ref (tr t)), (0, .ref h0), (1, .int t1), (2, .int i1), (3, .int m1)]) hx hb dX3_polish_88 hl (by decide) rfl (fun ls hl => ?_)
              refine lv_aload hx hb dX3_polish_90 (lv_at hl 0 rfl) ?_
              refine lv_dup hx hb dX3_polish_92 rfl ?_
              refine m_getN C w hpc (index := 119) (host := "BeadBench") (T := TX1) (N := 3) rfl hi_X1 2 (by decide) (by decide +kernel) rfl dX3_polish_93 ?_
              refine lv_iload_n hx hb dX3_polish_96 rfl (lv_at hl 7 rfl) ?_
              refine lv_iadd hx hb dX3_polish_97 ?_
              refine m_putN C w hpc (v := .int ((sL S pz) + m1)) (index := 119) (T := TX1) (N := 3) (host := "BeadBench") rfl hi_X1 tyX1 tyX1_ok nmX1 2 (by decide) (by decide +kernel) rfl (tyX1_ok 2 (by decide)) rfl rfl (Nat.le_of_ble_eq_true rfl) dX3_polish_98 (fun H locs w => ?_)
              obtain ⟨M1, e_M1⟩ : ∃ z, z = mu M (xp A pz) (eO 1 [.int (nI (sS S pz + 1)), .int (nI pz), .int ((sL S pz) + m1)]) := ⟨_, rfl⟩
              have w : mS D S0 M1 F s H locs := by rw [e_M1]; exact w
              have f1_xp_A_pz : M1 (xp A pz) = some (eO 1 [.int (nI (sS S pz + 1)), .int (nI pz), .int ((sL S pz) + m1)]) := by rw [e_M1]; exact mu_s
              refine lv_aload hx hb dX3_polish_101 (lv_at hl 0 rfl) ?_
              refine m_getN C w f1_xp_A_pz (index := 122) (host := "BeadBench") (T := TX1) (N := 3) rfl hi_X1 1 (by decide) (by decide +kernel) rfl dX3_polish_103 ?_
              exact m_iret C w dX3_polish_106 (by omega) (by omega) (by
                have hm : sp_polish S t1 i1 m1 = (nI pz, wPo S (va_up (sL S) pz (sL S pz + m1))) := by
                  rw [hm0]
                  unfold pol1
                  rw [if_neg (by omega), if_neg (by rw [n_38]; simp; exact n_48), if_neg (by rw [n_60]; decide), hat, ex, if_neg (lN_ne (by omega) p1), lN_pN (by omega)]
                exact ⟨by rw [hm], by rw [hm, e_M1]; exact ⟨A, tr, f, g, hC.pol p1 p2 _, hR⟩⟩)
            · exact absurd (show sH S t = 13 by omega) (by first | exact n_48 | omega)
          · skip
            have n_60 : (inP i1 (zT S t)) = false := bI_f c_60
            refine lv_bipush (v := (-4)) hx hb dX3_polish_63 (by decide) ?_
            exact m_iret C w dX3_polish_65 (by omega) (by omega) (⟨by rw [(show sp_polish S t1 i1 m1 = (-4, S) by rw [hm0]; unfold pol1; rw [if_neg (by omega), if_neg (by rw [n_38]; simp; exact n_48), if_pos n_60])], by rw [(show sp_polish S t1 i1 m1 = (-4, S) by rw [hm0]; unfold pol1; rw [if_neg (by omega), if_neg (by rw [n_38]; simp; exact n_48), if_pos n_60])]; exact ⟨A, tr, f, g, hC, hR⟩⟩)
        · skip
          have n_48 : (sH S t) = 13 := (nI_eq (by omega) (by omega)).mp (by first | exact c_48 | exact Classical.not_not.mp c_48)
          refine lv_bipush (v := (-3)) hx hb dX3_polish_51 (by decide) ?_
          exact m_iret C w dX3_polish_53 (by omega) (by omega) (⟨by rw [(show sp_polish S t1 i1 m1 = (-3, S) by rw [hm0]; unfold pol1; rw [if_neg (by omega), if_pos (by first | (simp [n_48]; done) | (simp [n_38]; done))])], by rw [(show sp_polish S t1 i1 m1 = (-3, S) by rw [hm0]; unfold pol1; rw [if_neg (by omega), if_pos (by first | (simp [n_48]; done) | (simp [n_38]; done))])]; exact ⟨A, tr, f, g, hC, hR⟩⟩)
    · skip
      refine lv_iload hx hb dX3_polish_30 (lv_at hl 0 rfl) ?_
      exact m_iret C w dX3_polish_32 (by omega) (by omega) (⟨by rw [(show sp_polish S t1 i1 m1 = (fR (sH S t), S) by rw [hm0]; unfold pol1; rw [if_pos (by have := mt fR_0.mpr c_27; omega)])], by rw [(show sp_polish S t1 i1 m1 = (fR (sH S t), S) by rw [hm0]; unfold pol1; rw [if_pos (by have := mt fR_0.mpr c_27; omega)])]; exact ⟨A, tr, f, g, hC, hR⟩⟩)
  · skip
    have n_4 : (inP t1 12) = false := bI_f c_4
    refine lv_bipush (v := (-6)) hx hb dX3_polish_7 (by decide) ?_
    exact m_iret C w dX3_polish_9 (by omega) (by omega) (⟨by rw [(show sp_polish S t1 i1 m1 = (-6, S) by unfold sp_polish; rw [if_pos (by first | simp [n_4])])], by rw [(show sp_polish S t1 i1 m1 = (-6, S) by unfold sp_polish; rw [if_pos (by first | simp [n_4])])]; exact ⟨A, tr, f, g, hC, hR⟩⟩)
