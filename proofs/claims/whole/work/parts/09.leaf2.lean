set_option maxRecDepth 100000 in
set_option maxHeartbeats 4000000 in
/-- Holding(kind, size, ticket): two new arrays -/
theorem c_Hold_init (l : Launch) (D : va_G) (y : mY) (S0 : Nat) (M F : mp) (h n : Nat) (a k1 n1 t1 : Int32) (v3 v4 : Value) (b : Int32) (hh : M h = some (eO 0 [.int k1, .int n1, .int t1, v3, v4])) (hn : n ≤ 64) : ct l yX0_init wsX0_init 2 40 2 (2 * n) D y S0 M F [.ref h, .int a, .int (nI n), .int b] (fun v M' => v = none ∧ ∃ qL qT, M qL = none ∧ M qT = none ∧ F qL = none ∧ F qT = none ∧ qL ≠ qT ∧ M' = mu (mu (mu M h (eO 0 [.int a, .int (nI n), .int b, .ref qL, .ref qT])) qL (eL y n (fun _ => 0))) qT (eT y n (fun _ => none))) := by
  refine ct_of cX0_init 4 none [(0, .ref h), (1, .int a), (2, .int (nI n)), (3, .int b)] (by decide +kernel) rfl (Nat.le_of_ble_eq_true rfl) rfl ?_
  intro p e s m below meth c ls C hnm hl w
  have hx := C.1
  have hb := C.2.1
  have hi_X0 : ∀ w ∈ u_ws RX0 TX0 5, w ∈ wsX0_init := by decide +kernel
  refine lv_aload_n hx hb dX0_init_0 rfl (lv_at hl 0 rfl) ?_
  refine m_callIN (host := "BeadBench") C w hl.1 (As := []) (rest := []) (c_Thing_init l D y S0 M F h) gX0_init_X2_init_n3 rfl (by decide +kernel) (by decide +kernel) (by decide +kernel) rfl (by decide +kernel) ⟨Nat.le_of_ble_eq_true rfl, Nat.le_of_ble_eq_true rfl⟩ rfl (by decide) dX0_init_1 ⟨by omega, by omega⟩ (fun v M1 H locs hq w => ?_)
  obtain ⟨rfl, hM1⟩ := hq
  rw [hM1] at w
  clear hM1 M1
  refine W.eq (g2 := F0 m 4 ls []) rfl ?_
  refine lv_aload_n hx hb dX0_init_4 rfl (lv_at hl 0 rfl) ?_
  refine lv_iload_n hx hb dX0_init_5 rfl (lv_at hl 1 rfl) ?_
  refine m_putF C w hh (v := .int a) (index := 9) (T := TX0) (N := 5) rfl hi_X0 tyX0 tyX0_ok nmX0 0 (by decide) (by decide +kernel) rfl hnm rfl (tyX0_ok 0 (by decide)) rfl rfl (Nat.le_of_ble_eq_true rfl) dX0_init_6 (fun H locs w => ?_)
  obtain ⟨M1, e_M1⟩ : ∃ z, z = mu M h (eO 0 [.int a, .int n1, .int t1, v3, v4]) := ⟨_, rfl⟩
  have w : mS D S0 M1 F s H locs := by rw [e_M1]; exact w
  have f1_h : M1 h = some (eO 0 [.int a, .int n1, .int t1, v3, v4]) := by rw [e_M1]; exact mu_s
  refine lv_aload_n hx hb dX0_init_9 rfl (lv_at hl 0 rfl) ?_
  refine lv_iload_n hx hb dX0_init_10 rfl (lv_at hl 2 rfl) ?_
  refine m_putF C w f1_h (v := .int (nI n)) (index := 15) (T := TX0) (N := 5) rfl hi_X0 tyX0 tyX0_ok nmX0 1 (by decide) (by decide +kernel) rfl hnm rfl (tyX0_ok 1 (by decide)) rfl rfl (Nat.le_of_ble_eq_true rfl) dX0_init_11 (fun H locs w => ?_)
  obtain ⟨M2, e_M2⟩ : ∃ z, z = mu M1 h (eO 0 [.int a, .int (nI n), .int t1, v3, v4]) := ⟨_, rfl⟩
  have w : mS D S0 M2 F s H locs := by rw [e_M2]; exact w
  have f2_h : M2 h = some (eO 0 [.int a, .int (nI n), .int t1, v3, v4]) := by rw [e_M2]; exact mu_s
  refine lv_aload_n hx hb dX0_init_14 rfl (lv_at hl 0 rfl) ?_
  refine lv_iload_n hx hb dX0_init_15 rfl (lv_at hl 3 rfl) ?_
  refine m_putF C w f2_h (v := .int b) (index := 18) (T := TX0) (N := 5) rfl hi_X0 tyX0 tyX0_ok nmX0 2 (by decide) (by decide +kernel) rfl hnm rfl (tyX0_ok 2 (by decide)) rfl rfl (Nat.le_of_ble_eq_true rfl) dX0_init_16 (fun H locs w => ?_)
  obtain ⟨M3, e_M3⟩ : ∃ z, z = mu M2 h (eO 0 [.int a, .int (nI n), .int b, v3, v4]) := ⟨_, rfl⟩
  have w : mS D S0 M3 F s H locs := by rw [e_M3]; exact w
  have f3_h : M3 h = some (eO 0 [.int a, .int (nI n), .int b, v3, v4]) := by rw [e_M3]; exact mu_s
  refine lv_aload_n hx hb dX0_init_19 rfl (lv_at hl 0 rfl) ?_
  refine lv_iload_n hx hb dX0_init_20 rfl (lv_at hl 2 rfl) ?_
  refine m_newL C w (by decide +kernel) n rfl (by omega) (by show _ + 1 ≤ 2; omega) (by show _ + n ≤ 2 * n; omega) dX0_init_21 (fun qL H hMqL hFqL w => ?_)
  obtain ⟨M4, e_M4⟩ : ∃ z, z = mu M3 qL (eL y n (fun _ => 0)) := ⟨_, rfl⟩
  have w : mS D S0 M4 F s H locs := by rw [e_M4]; exact w
  have f4_h : M4 h = some (eO 0 [.int a, .int (nI n), .int b, v3, v4]) := by rw [e_M4]; exact mu_k (m_fr f3_h hMqL) f3_h
  refine m_putF C w f4_h (v := .ref qL) (index := 21) (T := TX0) (N := 5) rfl hi_X0 tyX0 tyX0_ok nmX0 3 (by decide) (by decide +kernel) rfl hnm rfl (tyX0_ok 3 (by decide)) rfl rfl (Nat.le_of_ble_eq_true rfl) dX0_init_23 (fun H locs w => ?_)
  obtain ⟨M5, e_M5⟩ : ∃ z, z = mu M4 h (eO 0 [.int a, .int (nI n), .int b, .ref qL, v4]) := ⟨_, rfl⟩
  have w : mS D S0 M5 F s H locs := by rw [e_M5]; exact w
  have f5_h : M5 h = some (eO 0 [.int a, .int (nI n), .int b, .ref qL, v4]) := by rw [e_M5]; exact mu_s
  refine lv_aload_n hx hb dX0_init_26 rfl (lv_at hl 0 rfl) ?_
  refine lv_iload_n hx hb dX0_init_27 rfl (lv_at hl 2 rfl) ?_
  refine m_newT C w (by decide +kernel) n rfl (by omega) (by show _ + 1 ≤ 2; omega) (by show _ + n ≤ 2 * n; omega) dX0_init_28 (fun qT H hMqT hFqT w => ?_)
  obtain ⟨M6, e_M6⟩ : ∃ z, z = mu M5 qT (eT y n (fun _ => none)) := ⟨_, rfl⟩
  have w : mS D S0 M6 F s H locs := by rw [e_M6]; exact w
  have f6_h : M6 h = some (eO 0 [.int a, .int (nI n), .int b, .ref qL, v4]) := by rw [e_M6]; exact mu_k (m_fr f5_h hMqT) f5_h
  refine m_putF C w f6_h (v := .ref qT) (index := 25) (T := TX0) (N := 5) rfl hi_X0 tyX0 tyX0_ok nmX0 4 (by decide) (by decide +kernel) rfl hnm rfl (tyX0_ok 4 (by decide)) rfl rfl (Nat.le_of_ble_eq_true rfl) dX0_init_31 (fun H locs w => ?_)
  obtain ⟨M7, e_M7⟩ : ∃ z, z = mu M6 h (eO 0 [.int a, .int (nI n), .int b, .ref qL, .ref qT]) := ⟨_, rfl⟩
  have w : mS D S0 M7 F s H locs := by rw [e_M7]; exact w
  have f7_h : M7 h = some (eO 0 [.int a, .int (nI n), .int b, .ref qL, .ref qT]) := by rw [e_M7]; exact mu_s
  have nL : qL ≠ h := fun q => by rw [q, e_M3, mu_s] at hMqL; cases hMqL
  have mL : M qL = none := by rw [e_M3, mu_n nL, e_M2, mu_n nL, e_M1, mu_n nL] at hMqL; exact hMqL
  have nT : qT ≠ h := fun q => by rw [q] at hMqT; rw [hMqT] at f5_h; cases f5_h
  have nTL : qT ≠ qL := fun q => by rw [q, e_M5, mu_n nL, e_M4, mu_s] at hMqT; cases hMqT
  have mT1 : M qT = none := by rw [e_M5, mu_n nT, e_M4, mu_n nTL, e_M3, mu_n nT, e_M2, mu_n nT, e_M1, mu_n nT] at hMqT; exact hMqT
  exact m_vret C w dX0_init_34 (by omega) (by omega) (⟨rfl, qL, qT, mL, mT1, hFqL, hFqT, Ne.symm nTL, by rw [e_M7, e_M6, e_M5, e_M4, e_M3, e_M2, e_M1]; funext q; unfold mu; by_cases h1 : q = h <;> by_cases h2 : q = qL <;> by_cases h3 : q = qT <;> simp_all⟩)
set_option maxRecDepth 100000 in
set_option maxHeartbeats 4000000 in
theorem c_Piece_sort2 (l : Launch) (D : va_G) (y : mY) (S0 : Nat) (M F : mp) (h sn : Nat) (a b : Value) (hh : M h = some (eO 1 [.int (nI sn), a, b])) : ct l yX1_sortOfThing wsX1_sortOfThing 0 0 0 0 D y S0 M F [.ref h] (fun v M' => v = some (.int (nI sn)) ∧ M' = M) := by
  refine ct_of cX1_sortOfThing 1 (some .int) [(0, .ref h)] (by decide +kernel) rfl (Nat.le_of_ble_eq_true rfl) rfl ?_
  intro p e s m below meth c ls C hnm hl w
  have hx := C.1
  have hb := C.2.1
  have hi_X1 : ∀ w ∈ u_ws RX1 TX1 3, w ∈ wsX1_sortOfThing := by decide +kernel
  refine lv_aload_n hx hb dX1_sortOfThing_0 rfl (lv_at hl 0 rfl) ?_
  refine m_get C w hh (index := 7) (T := TX1) (N := 3) rfl hi_X1 0 (by decide) (by decide +kernel) rfl dX1_sortOfThing_1 ?_
  exact m_iret C w dX1_sortOfThing_4 (by omega) (by omega) (⟨rfl, rfl⟩)
set_option maxRecDepth 100000 in
set_option maxHeartbeats 4000000 in
theorem c_Hold_accepts_n (l : Launch) (D : va_G) (y : mY) (S0 : Nat) (M F : mp) (h k n : Nat) (t : Int32) (na ta : Nat) (hh : M h = some (eO 0 (hF k n t na ta))) (hk : k < 14) (hn : n ≤ 64) : ct l yX0_accepts wsX0_accepts 1 20 0 0 D y S0 M F [.ref h, .null] (fun v M' => v = some (.int (bI (acc k none))) ∧ M' = M) := by
  refine ct_of cX0_accepts 3 (some .boolean) [(0, .ref h), (1, .null)] (by decide +kernel) rfl (Nat.le_of_ble_eq_true rfl) rfl ?_
  intro p e s m below meth c ls C hnm hl w
  have hx := C.1
  have hb := C.2.1
  have hi_X0 : ∀ w ∈ u_ws RX0 TX0 5, w ∈ wsX0_accepts := by decide +kernel
  refine lv_aload_nN hx hb dX0_accepts_0 rfl (lv_at hl 1 rfl) ?_
  refine lv_ifnonnullN hx hb dX0_accepts_1 ?_
  refine lv_iconst (v := 1) hx hb dX0_accepts_4 (by decide) ?_
  exact m_zret C w dX0_accepts_5 (by omega) (by omega) (by first | exact Or.inl rfl | exact Or.inr rfl) (⟨rfl, rfl⟩)
set_option maxRecDepth 100000 in
set_option maxHeartbeats 4000000 in
theorem c_Hold_accepts_s (l : Launch) (D : va_G) (y : mY) (S0 : Nat) (M F : mp) (h k n : Nat) (t : Int32) (na ta : Nat) (hh : M h = some (eO 0 (hF k n t na ta))) (hk : k < 14) (hn : n ≤ 64) (z sn : Nat) (hz : (sn = 6 ∧ ∃ fs, M z = some (eO 0 fs)) ∨ ∃ a b, sn < 6 ∧ M z = some (eO 1 [.int (nI sn), a, b])) : ct l yX0_accepts wsX0_accepts 1 20 0 0 D y S0 M F [.ref h, .ref z] (fun v M' => v = some (.int (bI (acc k (some sn)))) ∧ M' = M) := by
  refine ct_of cX0_accepts 3 (some .boolean) [(0, .ref h), (1, .ref z)] (by decide +kernel) rfl (Nat.le_of_ble_eq_true rfl) rfl ?_
  intro p e s m below meth c ls C hnm hl w
  have hx := C.1
  have hb := C.2.1
  have hi_X0 : ∀ w ∈ u_ws RX0 TX0 5, w ∈ wsX0_accepts := by decide +kernel
  refine lv_aload_n hx hb dX0_accepts_0 rfl (lv_at hl 1 rfl) ?_
  refine lv_ifnonnull (tgt := 6) hx hb dX0_accepts_1 (by decide) ?_
  refine lv_aload_n hx hb dX0_accepts_6 rfl (lv_at hl 1 rfl) ?_
  have key : ∀ (H : Heap) (locs : List Loc), mS D S0 M F s H locs → W p l e { frames := 1, cells := 0, slots := 0, locals := 20 } s m [Value.ref h, Value.ref z].toArray below meth c H locs (0 + 0) (0 + 0) (MQ below (mQ D S0 F (fun v M' => v = some (.int (bI (acc k (some sn)))) ∧ M' = M)) [Value.ref h, Value.ref z].toArray s 0 0 (fun q => S0 ≤ q)) (F0 m 10 ls [.int (nI sn)]) := by
    have hs6 : sn ≤ 6 := by rcases hz with ⟨h, -⟩ | ⟨_, _, h, -⟩ <;> omega
    clear w
    intro H locs w
    refine lv_istore_n (lv' := [(2, .int (nI sn)), (0, .ref h), (1, .ref z)]) hx hb dX0_accepts_10 rfl hl (by decide) rfl (fun ls hl => ?_)
    refine lv_aload_n hx hb dX0_accepts_11 rfl (lv_at hl 1 rfl) ?_
    refine m_get C w hh (index := 9) (T := TX0) (N := 5) rfl hi_X0 0 (by decide) (by decide +kernel) rfl dX0_accepts_12 ?_
    have hkI : (nI k).toInt = (k : Int) := nI_toInt (by omega)
    by_cases k10 : k < 10 ∨ 13 < k
    · refine lv_tableOut (tgt := 95) hx hb dX0_accepts_15 (by rw [hkI]; omega) (by decide) ?_
      refine lv_iconst (v := 0) hx hb dX0_accepts_95 (by decide) ?_
      exact m_zret C w dX0_accepts_96 (by omega) (by omega) (by first | exact Or.inl rfl | exact Or.inr rfl) (⟨by show _ = some (Value.int (bI (if k = 10 then _ else _))); rw [if_neg (by omega), if_neg (by omega), if_neg (by omega), if_neg (by omega)]; rfl, rfl⟩)
    rcases (show k = 10 ∨ k = 11 ∨ k = 12 ∨ k = 13 by omega) with rfl | rfl | rfl | rfl
    · refine lv_tableIn (tgt := 44) (off := 29) hx hb dX0_accepts_15 (by rw [hkI]; decide) (by rw [hkI]; decide) (by rw [hkI]; rfl) (by decide) ?_
      refine lv_iload_n hx hb dX0_accepts_44 rfl (lv_at hl 0 rfl) ?_
      refine lv_bipush (v := 6) hx hb dX0_accepts_45 (by decide) ?_
      refine lv_icmp_eq (tgt := 54) hx hb dX0_accepts_47 (by decide) (fun c_47 => ?_) (fun c_47 => ?_)
      · skip
        have n_47 : sn = 6 := (nI_eq (by omega) (by omega)).mp (by first | exact c_47 | exact Classical.not_not.mp c_47)
        refine lv_iconst (v := 0) hx hb dX0_accepts_54 (by decide) ?_
        exact m_zret C w dX0_accepts_55 (by omega) (by omega) (by first | exact Or.inl rfl | exact Or.inr rfl) (⟨by unfold acc; simp_all [bI]; try omega, rfl⟩)
      · skip
        have n_47 : ¬ sn = 6 := fun h => absurd ((nI_eq (by omega) (by omega)).mpr h) c_47
        refine lv_iconst (v := 1) hx hb dX0_accepts_50 (by decide) ?_
        refine lv_goto (tgt := 55) hx hb dX0_accepts_51 (by decide) ?_
        exact m_zret C w dX0_accepts_55 (by omega) (by omega) (by first | exact Or.inl rfl | exact Or.inr rfl) (⟨by unfold acc; simp_all [bI]; try omega, rfl⟩)
    · refine lv_tableIn (tgt := 56) (off := 41) hx hb dX0_accepts_15 (by rw [hkI]; decide) (by rw [hkI]; decide) (by rw [hkI]; rfl) (by decide) ?_
      refine lv_iload_n hx hb dX0_accepts_56 rfl (lv_at hl 0 rfl) ?_
      refine lv_iconst (v := 3) hx hb dX0_accepts_57 (by decide) ?_
      refine lv_icmp_ne (tgt := 65) hx hb dX0_accepts_58 (by decide) (fun c_58 => ?_) (fun c_58 => ?_)
      · skip
        have n_58 : ¬ sn = 3 := fun h => absurd ((nI_eq (by omega) (by omega)).mpr h) c_58
        refine lv_iconst (v := 0) hx hb dX0_accepts_65 (by decide) ?_
        exact m_zret C w dX0_accepts_66 (by omega) (by omega) (by first | exact Or.inl rfl | exact Or.inr rfl) (⟨by unfold acc; simp_all [bI]; try omega, rfl⟩)
      · skip
        have n_58 : sn = 3 := (nI_eq (by omega) (by omega)).mp (by first | exact c_58 | exact Classical.not_not.mp c_58)
        refine lv_iconst (v := 1) hx hb dX0_accepts_61 (by decide) ?_
        refine lv_goto (tgt := 66) hx hb dX0_accepts_62 (by decide) ?_
        exact m_zret C w dX0_accepts_66 (by omega) (by omega) (by first | exact Or.inl rfl | exact Or.inr rfl) (⟨by unfold acc; simp_all [bI]; try omega, rfl⟩)
    · refine lv_tableIn (tgt := 67) (off := 52) hx hb dX0_accepts_15 (by rw [hkI]; decide) (by rw [hkI]; decide) (by rw [hkI]; rfl) (by decide) ?_
      refine lv_iload_n hx hb dX0_accepts_67 rfl (lv_at hl 0 rfl) ?_
      refine lv_iconst (v := 4) hx hb dX0_accepts_68 (by decide) ?_
      refine lv_icmp_eq (tgt := 77) hx hb dX0_accepts_69 (by decide) (fun c_69 => ?_) (fun c_69 => ?_)
      · skip
        have n_69 : sn = 4 := (nI_eq (by omega) (by omega)).mp (by first | exact c_69 | exact Classical.not_not.mp c_69)
        refine lv_iconst (v := 1) hx hb dX0_accepts_77 (by decide) ?_
        refine lv_goto (tgt := 82) hx hb dX0_accepts_78 (by decide) ?_
        exact m_zret C w dX0_accepts_82 (by omega) (by omega) (by first | exact Or.inl rfl | exact Or.inr rfl) (⟨by unfold acc; simp_all [bI]; try omega, rfl⟩)
      · skip
        have n_69 : ¬ sn = 4 := fun h => absurd ((nI_eq (by omega) (by omega)).mpr h) c_69
        refine lv_iload_n hx hb dX0_accepts_72 rfl (lv_at hl 0 rfl) ?_
        refine lv_iconst (v := 5) hx hb dX0_accepts_73 (by decide) ?_
        refine lv_icmp_ne (tgt := 81) hx hb dX0_accepts_74 (by decide) (fun c_74 => ?_) (fun c_74 => ?_)
        · skip
          have n_74 : ¬ sn = 5 := fun h => absurd ((nI_eq (by omega) (by omega)).mpr h) c_74
          refine lv_iconst (v := 0) hx hb dX0_accepts_81 (by decide) ?_
          exact m_zret C w dX0_accepts_82 (by omega) (by omega) (by first | exact Or.inl rfl | exact Or.inr rfl) (⟨by unfold acc; simp_all [bI]; try omega, rfl⟩)
        · skip
          have n_74 : sn = 5 := (nI_eq (by omega) (by omega)).mp (by first | exact c_74 | exact Classical.not_not.mp c_74)
          refine lv_iconst (v := 1) hx hb dX0_accepts_77 (by decide) ?_
          refine lv_goto (tgt := 82) hx hb dX0_accepts_78 (by decide) ?_
          exact m_zret C w dX0_accepts_82 (by omega) (by omega) (by first | exact Or.inl rfl | exact Or.inr rfl) (⟨by unfold acc; simp_all [bI]; try omega, rfl⟩)
    · refine lv_tableIn (tgt := 83) (off := 68) hx hb dX0_accepts_15 (by rw [hkI]; decide) (by rw [hkI]; decide) (by rw [hkI]; rfl) (by decide) ?_
      refine lv_iload_n hx hb dX0_accepts_83 rfl (lv_at hl 0 rfl) ?_
      refine lv_bipush (v := 6) hx hb dX0_accepts_84 (by decide) ?_
      refine lv_icmp_ne (tgt := 93) hx hb dX0_accepts_86 (by decide) (fun c_86 => ?_) (fun c_86 => ?_)
      · skip
        have n_86 : ¬ sn = 6 := fun h => absurd ((nI_eq (by omega) (by omega)).mpr h) c_86
        refine lv_iconst (v := 0) hx hb dX0_accepts_93 (by decide) ?_
        exact m_zret C w dX0_accepts_94 (by omega) (by omega) (by first | exact Or.inl rfl | exact Or.inr rfl) (⟨by unfold acc; simp_all [bI]; try omega, rfl⟩)
      · skip
        have n_86 : sn = 6 := (nI_eq (by omega) (by omega)).mp (by first | exact c_86 | exact Classical.not_not.mp c_86)
        refine lv_iconst (v := 1) hx hb dX0_accepts_89 (by decide) ?_
        refine lv_goto (tgt := 94) hx hb dX0_accepts_90 (by decide) ?_
        exact m_zret C w dX0_accepts_94 (by omega) (by omega) (by first | exact Or.inl rfl | exact Or.inr rfl) (⟨by unfold acc; simp_all [bI]; try omega, rfl⟩)
  rcases hz with ⟨rfl, fs, hz⟩ | ⟨a, b, hs, hz⟩
  · refine m_callU C w hl.1 (As := []) (rest := []) (c_Hold_sort l D y S0 M F z) (va_cwA (owner := "BeadBench$Thing") (x := ⟨"BeadBench$Thing", "sortOfThing", "()I"⟩) 0 C.2.2.2.2.1 gX0_accepts_X0_sortOfThing_u29X0 rfl rfl rfl (C.2.2.2.2.2.2.2.1.2.1 _ (by decide +kernel)) (by decide +kernel) ⟨Nat.le_of_ble_eq_true rfl, Nat.le_of_ble_eq_true rfl⟩) hz (T := TX0) (N := 5) rfl rfl (by decide) dX0_accepts_7 ⟨by omega, by omega⟩ (fun v M1 H locs hq w => ?_)
    obtain ⟨rfl, hM1⟩ := hq
    rw [hM1] at w
    exact key H locs w
  · refine m_callU C w hl.1 (As := []) (rest := []) (c_Piece_sort2 l D y S0 M F z sn a b hz) (va_cwA (owner := "BeadBench$Thing") (x := ⟨"BeadBench$Thing", "sortOfThing", "()I"⟩) 0 C.2.2.2.2.1 gX0_accepts_X1_sortOfThing_u29X1 rfl rfl rfl (C.2.2.2.2.2.2.2.1.2.1 _ (by decide +kernel)) (by decide +kernel) ⟨Nat.le_of_ble_eq_true rfl, Nat.le_of_ble_eq_true rfl⟩) hz (T := TX1) (N := 3) rfl rfl (by decide) dX0_accepts_7 ⟨by omega, by omega⟩ (fun v M1 H locs hq w => ?_)
    obtain ⟨rfl, hM1⟩ := hq
    rw [hM1] at w
    exact key H locs w
theorem c_Hold_accepts (l : Launch) (D : va_G) (y : mY) (S0 : Nat) (M F : mp) (h k n : Nat) (t : Int32) (na ta : Nat) (hh : M h = some (eO 0 (hF k n t na ta))) (hk : k < 14) (hn : n ≤ 64) (o so : Option Nat) (hso : thS M o so) : ct l yX0_accepts wsX0_accepts 1 20 0 0 D y S0 M F [.ref h, va_rf o] (fun v M' => v = some (.int (bI (acc k so))) ∧ M' = M) := by
  rcases hso with ⟨rfl, rfl⟩ | ⟨z, sn, rfl, rfl, hz⟩
  · exact c_Hold_accepts_n l D y S0 M F h k n t na ta hh hk hn
  · exact c_Hold_accepts_s l D y S0 M F h k n t na ta hh hk hn z sn hz
