theorem m_cong {D : va_G} {y : mY} {S0 : Nat} {M F : mp} {s : State} {H : Heap} {locs : List Loc} (w : mS D S0 M F s H locs) {a n : Nat} {f g : Nat → Option Nat} (ha : M a = some (eH y n f)) (hf : ∀ j, j < n → f j = g j) : mS D S0 (mu M a (eH y n g)) F s H locs := by
  obtain ⟨⟨ws, hP, hD, hM, hF, hdj⟩, hS⟩ := w
  obtain ⟨k, hk⟩ := List.getElem?_of_mem (hM a _ ha)
  refine ⟨mw_set (ws := ws) (k := k) ?_ (hD.set hk) hk hM hF hdj ha, hS⟩
  refine hP.set hD hk ?_ (fun _ _ => rfl)
  have h1 := hP k _ hk
  show H[a]? = some (vp_cell _ _)
  rw [show H[a]? = some (vp_cell y.2.2.1 (n, .inr (.inr (.inr (.inr f))))) from h1, vp_cell_q, vp_cell_q]
  unfold arrV
  congr 2
  congr 1
  funext j
  exact congrArg va_rf (hf j.val j.isLt)
theorem CW_00 {y : mY} {h0 qa aT qb aY qL qT : Nat} {va vb : Nat} {M : mp} (h1 : M h0 = some (eO 2 [.ref qa, .ref aT, .ref qb, .null, .ref aY, .int 0, .int 0])) (h2 : M qa = some (eO 0 (hF 0 0 0 va vb))) (h3 : M aT = some (eH y 12 (fun _ => some qa))) (h4 : M qb = some (eO 0 (hF 0 64 0 qL qT))) (h5 : M aY = some (eI y 6 (fun _ => 0))) (h6 : M qL = some (eL y 64 (fun _ => 0))) (h7 : M qT = some (eT y 64 (fun _ => none))) (hne : qT ≠ aT) : RC y h0 s00 M := by
  refine ⟨(qa, aT, qb, aY, fun _ => 0, fun _ => qL, fun _ => qT, fun _ => 0), fun _ => qa, fun _ _ => 0, fun _ _ => none, ⟨⟨h1, ⟨va, vb, h2⟩, h3, h4, h5, fun r hr => absurd hr (Nat.not_lt_zero r), fun k k1 k2 => absurd (Nat.le_trans k1 k2) (by decide), fun t ht => Or.inl ⟨rfl, rfl⟩⟩, ⟨fun j hj => ?_, fun j hj => ?_, fun j i z hj hi hz => by cases hz⟩, fun i j hi hj _ => ?_, fun i j hi hj _ => ?_, fun j hj => hne, fun i j hi hj _ => absurd hi (Nat.not_lt_zero i), fun i j i1 i2 => absurd (Nat.le_trans i1 i2) (by decide)⟩, fun r i hr => absurd hr (Nat.not_lt_zero r), fun r i hr => by cases hr⟩
  · have : j = 0 := Nat.le_zero.mp hj
    subst this
    exact h6
  · have : j = 0 := Nat.le_zero.mp hj
    subst this
    exact h7
  · exact (Nat.le_zero.mp hi).trans (Nat.le_zero.mp hj).symm
  · exact (Nat.le_zero.mp hi).trans (Nat.le_zero.mp hj).symm
set_option maxRecDepth 100000 in
set_option maxHeartbeats 4000000 in
/-- BeadBench() -/
theorem c_Bench_init (l : Launch) (D : va_G) (y : mY) (S0 : Nat) (M F : mp) (h0 : Nat) (hh : M h0 = some (eO 2 [.null, .null, .null, .null, .null, .int 0, .int 0])) : ct l yX3_init wsX3_init 3 63 8 156 D y S0 M F [.ref h0] (fun v M' => v = none ∧ RC y h0 s00 M') := by
  refine ct_of cX3_init 2 none [(0, .ref h0)] (by decide +kernel) rfl (Nat.le_of_ble_eq_true rfl) rfl ?_
  intro p e s m below meth c ls C hnm hl w
  have hx := C.1
  have hb := C.2.1
  have hi_X0 : ∀ w ∈ u_ws RX0 TX0 5, w ∈ wsX3_init := by decide +kernel
  have hi_X3 : ∀ w ∈ u_ws RX3 TX3 7, w ∈ wsX3_init := by decide +kernel
  refine lv_aload_n hx hb dX3_init_0 rfl (lv_at hl 0 rfl) ?_
  refine W.objInit hx hb C.2.2.2.1 (C.2.2.2.2.1 (.methodLink RX3 1 objectInit) (by decide +kernel)) (C.2.2.2.2.1 (.instanceMethod objectInit) (by decide +kernel)) (C.2.2.2.2.1 _ (List.mem_of_getElem? (i := 3) rfl)) rfl (by rw [C.2.2.1]; exact hl.1) rfl dX3_init_1 (Nat.le_of_ble_eq_true rfl) (Nat.le_of_ble_eq_true rfl) ?_
  refine W.eq (g2 := F0 m 4 ls []) rfl ?_
  refine lv_aload_n hx hb dX3_init_4 rfl (lv_at hl 0 rfl) ?_
  refine m_new C w 0 [.int 0, .int 0, .int 0, .null, .null] (T := TX0) (N := 5) rfl hi_X0 tyX0 tyX0_ok (by decide +kernel) (by decide +kernel) (by decide +kernel) (by intro j hj; rcases (show j = 0 ∨ j = 1 ∨ j = 2 ∨ j = 3 ∨ j = 4 by omega) with rfl | rfl | rfl | rfl | rfl <;> rfl) (Nat.le_of_ble_eq_true rfl) (Nat.le_of_ble_eq_true rfl) dX3_init_5 (fun qa H hMqa hFqa w => ?_)
  obtain ⟨M1, e_M1⟩ : ∃ z, z = mu M qa (eO 0 [.int 0, .int 0, .int 0, .null, .null]) := ⟨_, rfl⟩
  rw [← e_M1] at w
  have f1_h0 : M1 h0 = some (eO 2 [.null, .null, .null, .null, .null, .int 0, .int 0]) := by rw [e_M1]; exact mu_k (m_fr hh hMqa) hh
  have f1_qa : M1 qa = some (eO 0 [.int 0, .int 0, .int 0, .null, .null]) := by rw [e_M1]; exact mu_s
  refine lv_dup hx hb dX3_init_8 rfl ?_
  refine lv_iconst (v := 0) hx hb dX3_init_9 (by decide) ?_
  refine lv_iconst (v := 0) hx hb dX3_init_10 (by decide) ?_
  refine lv_iconst (v := 0) hx hb dX3_init_11 (by decide) ?_
  refine m_callI C w hl.1 (As := [.int 0, .int 0, .int 0]) (rest := [.ref qa, .ref h0]) (c_Hold_init l D y S0 M1 F qa 0 0 0 0 0 .null .null 0 f1_qa (by omega)) ggX3_init_X0_init rfl (by decide +kernel) (by decide +kernel) (by decide +kernel) rfl (show (_ ≠ _ ∧ _ ≠ _ ∧ _ = some 3) by decide +kernel) ⟨Nat.le_of_ble_eq_true rfl, Nat.le_of_ble_eq_true rfl⟩ rfl (Nat.le_of_ble_eq_true rfl) dX3_init_12 ⟨Nat.le_of_ble_eq_true rfl, Nat.le_of_ble_eq_true rfl⟩ (fun v M1 H locs hq w => ?_)
  obtain ⟨rfl, La, Ta, h1a, h2a, -, -, h3a, hM3⟩ := hq
  obtain ⟨M3a, e_M3⟩ : ∃ z, z = M1 := ⟨_, rfl⟩
  rw [← e_M3] at w hM3
  clear e_M3 M1
  obtain ⟨hlea, g_qa, gLa, gTa, mLa, mTa⟩ := new_hold hMqa e_M1 h1a h2a h3a hM3
  refine W.eq (g2 := F0 m 15 ls [.ref qa, .ref h0]) rfl ?_
  have ka_h0 := hlea _ _ hh
  refine m_putF C w ka_h0 (v := .ref qa) (index := 14) (T := TX3) (N := 7) rfl hi_X3 tyX3 tyX3_ok nmX3 0 (by decide) (by decide +kernel) rfl hnm rfl (tyX3_ok 0 (by decide)) rfl rfl (Nat.le_of_ble_eq_true rfl) dX3_init_15 (fun H locs w => ?_)
  obtain ⟨M2, e_M2⟩ : ∃ z, z = mu M3a h0 (eO 2 [.ref qa, .null, .null, .null, .null, .int 0, .int 0]) := ⟨_, rfl⟩
  have w : mS D S0 M2 F s H locs := by rw [e_M2]; exact w
  have f2_qa : M2 qa = some (eO 0 [.int 0, .int (nI 0), .int 0, .ref La, .ref Ta]) := by rw [e_M2]; exact mu_k (m_ne g_qa ka_h0 (by first | exact ne_LT | exact ne_LI | exact ne_LH | exact ne_TL | exact ne_IL | exact ne_IH | exact ne_IT | exact ne_HL | exact ne_HI | exact ne_TI | exact ne_OA | exact ne_AO | (intro h; cases h))) g_qa
  have f2_h0 : M2 h0 = some (eO 2 [.ref qa, .null, .null, .null, .null, .int 0, .int 0]) := by rw [e_M2]; exact mu_s
  refine lv_aload_n hx hb dX3_init_18 rfl (lv_at hl 0 rfl) ?_
  refine lv_bipush (v := 12) hx hb dX3_init_19 (by decide) ?_
  refine m_newH C w (by decide +kernel) 12 rfl (by omega) (Nat.le_of_ble_eq_true rfl) (Nat.le_of_ble_eq_true rfl) dX3_init_21 (fun aT H hMaT hFaT w => ?_)
  obtain ⟨M3, e_M3⟩ : ∃ z, z = mu M2 aT (eH y 12 (fun _ => none)) := ⟨_, rfl⟩
  rw [← e_M3] at w
  have f3_h0 : M3 h0 = some (eO 2 [.ref qa, .null, .null, .null, .null, .int 0, .int 0]) := by rw [e_M3]; exact mu_k (m_fr f2_h0 hMaT) f2_h0
  have f3_qa : M3 qa = some (eO 0 [.int 0, .int (nI 0), .int 0, .ref La, .ref Ta]) := by rw [e_M3]; exact mu_k (m_fr f2_qa hMaT) f2_qa
  have f3_aT : M3 aT = some (eH y 12 (fun _ => none)) := by rw [e_M3]; exact mu_s
  refine m_putF C w f3_h0 (v := .ref aT) (index := 18) (T := TX3) (N := 7) rfl hi_X3 tyX3 tyX3_ok nmX3 1 (by decide) (by decide +kernel) rfl hnm rfl (tyX3_ok 1 (by decide)) rfl rfl (Nat.le_of_ble_eq_true rfl) dX3_init_24 (fun H locs w => ?_)
  obtain ⟨M4, e_M4⟩ : ∃ z, z = mu M3 h0 (eO 2 [.ref qa, .ref aT, .null, .null, .null, .int 0, .int 0]) := ⟨_, rfl⟩
  have w : mS D S0 M4 F s H locs := by rw [e_M4]; exact w
  have f4_qa : M4 qa = some (eO 0 [.int 0, .int (nI 0), .int 0, .ref La, .ref Ta]) := by rw [e_M4]; exact mu_k (m_ne f3_qa f3_h0 (by first | exact ne_LT | exact ne_LI | exact ne_LH | exact ne_TL | exact ne_IL | exact ne_IH | exact ne_IT | exact ne_HL | exact ne_HI | exact ne_TI | exact ne_OA | exact ne_AO | (intro h; cases h))) f3_qa
  have f4_aT : M4 aT = some (eH y 12 (fun _ => none)) := by rw [e_M4]; exact mu_k (m_ne f3_aT f3_h0 (by first | exact ne_LT | exact ne_LI | exact ne_LH | exact ne_TL | exact ne_IL | exact ne_IH | exact ne_IT | exact ne_HL | exact ne_HI | exact ne_TI | exact ne_OA | exact ne_AO | (intro h; cases h))) f3_aT
  have f4_h0 : M4 h0 = some (eO 2 [.ref qa, .ref aT, .null, .null, .null, .int 0, .int 0]) := by rw [e_M4]; exact mu_s
  refine lv_iconst (v := 0) hx hb dX3_init_27 (by decide) ?_
  refine lv_istore_n (lv' := [(1, .int 0), (0, .ref h0)]) hx hb dX3_init_28 rfl hl (by decide) rfl (fun ls hl => ?_)
  have lp : ∀ (kf : Nat) (i : Nat) (M2 : mp), (i ≤ 12) → (M2 h0 = some (eO 2 [.ref qa, .ref aT, .null, .null, .null, .int 0, .int 0])) → (M2 qa = some (eO 0 [.int 0, .int (nI 0), .int 0, .ref La, .ref Ta])) → (M2 aT = some (eH y 12 (fun j => if j < i then some qa else none))) →  ∀ (H : Heap) (locs : List Loc) (ls : Array Slot), 12 - i = kf → mS D S0 M2 F s H locs → lv_has ls 2 [(1, .int (nI i)), (0, .ref h0)] → W p l e { frames := 3, cells := 8, slots := 156, locals := 63 } s m ([.ref h0] : List Value).toArray below meth c H locs (0 + 1 + 2 + 1) (0 + 5 + 2 * 0 + 12) (MQ below (mQ D S0 F (fun v M' => v = none ∧ RC y h0 s00 M')) ([.ref h0] : List Value).toArray s 8 156 (fun q => S0 ≤ q)) (F0 m 29 ls []) := by
    clear w hl
    intro kf
    induction kf using Nat.strongRecOn with
    | _ kf ih_lp =>
      intro i M2 hi hb2 hn2 hT2 H locs ls hkf w hl
      refine lv_iload_n hx hb dX3_init_29 rfl (lv_at hl 0 rfl) ?_
      refine lv_bipush (v := 12) hx hb dX3_init_30 (by decide) ?_
      refine lv_icmp_ge (tgt := 51) hx hb dX3_init_32 (by decide) (fun c_32 => ?_) (fun c_32 => ?_)
      · skip
        have n_32 : 12 ≤ i := (nI_leI (by omega) (by omega)).mp c_32
        have ei : i = 12 := by omega
        subst ei
        refine lv_aload_n hx hb dX3_init_51 rfl (lv_at hl 1 rfl) ?_
        refine m_new C w 0 [.int 0, .int 0, .int 0, .null, .null] (T := TX0) (N := 5) rfl hi_X0 tyX0 tyX0_ok (by decide +kernel) (by decide +kernel) (by decide +kernel) (by intro j hj; rcases (show j = 0 ∨ j = 1 ∨ j = 2 ∨ j = 3 ∨ j = 4 by omega) with rfl | rfl | rfl | rfl | rfl <;> rfl) (Nat.le_of_ble_eq_true rfl) (Nat.le_of_ble_eq_true rfl) dX3_init_52 (fun qb H hMqb hFqb w => ?_)
        obtain ⟨M5, e_M5⟩ : ∃ z, z = mu M2 qb (eO 0 [.int 0, .int 0, .int 0, .null, .null]) := ⟨_, rfl⟩
        rw [← e_M5] at w
        have f5_h0 : M5 h0 = some (eO 2 [.ref qa, .ref aT, .null, .null, .null, .int 0, .int 0]) := by rw [e_M5]; exact mu_k (m_fr hb2 hMqb) hb2
        have f5_qa : M5 qa = some (eO 0 [.int 0, .int (nI 0), .int 0, .ref La, .ref Ta]) := by rw [e_M5]; exact mu_k (m_fr hn2 hMqb) hn2
        have f5_aT : M5 aT = some (eH y 12 (fun j => if j < 12 then some qa else none)) := by rw [e_M5]; exact mu_k (m_fr hT2 hMqb) hT2
        have f5_qb : M5 qb = some (eO 0 [.int 0, .int 0, .int 0, .null, .null]) := by rw [e_M5]; exact mu_s
        refine lv_dup hx hb dX3_init_55 rfl ?_
        refine lv_iconst (v := 0) hx hb dX3_init_56 (by decide) ?_
        refine lv_bipush (v := 64) hx hb dX3_init_57 (by decide) ?_
        refine lv_iconst (v := 0) hx hb dX3_init_59 (by decide) ?_
        refine m_callI C w hl.1 (As := [.int 0, .int 64, .int 0]) (rest := [.ref qb, .ref h0]) (c_Hold_init l D y S0 M5 F qb 64 0 0 0 0 .null .null 0 f5_qb (by omega)) ggX3_init_X0_init rfl (by decide +kernel) (by decide +kernel) (by decide +kernel) rfl (show (_ ≠ _ ∧ _ ≠ _ ∧ _ = some 3) by decide +kernel) ⟨Nat.le_of_ble_eq_true rfl, Nat.le_of_ble_eq_true rfl⟩ rfl (Nat.le_of_ble_eq_true rfl) dX3_init_60 ⟨Nat.le_of_ble_eq_true rfl, Nat.le_of_ble_eq_true rfl⟩ (fun v M1 H locs hq w => ?_)
        obtain ⟨rfl, Lb, Tb, h1b, h2b, -, -, h3b, hM3⟩ := hq
        obtain ⟨M3b, e_M3⟩ : ∃ z, z = M1 := ⟨_, rfl⟩
        rw [← e_M3] at w hM3
        clear e_M3 M1
        obtain ⟨hleb, g_qb, gLb, gTb, mLb, mTb⟩ := new_hold hMqb e_M5 h1b h2b h3b hM3
        refine W.eq (g2 := F0 m 63 ls [.ref qb, .ref h0]) rfl ?_
        have kb_h0 := hleb _ _ hb2
        have kb_qa := hleb _ _ hn2
        have kb_aT := hleb _ _ hT2
        refine m_putF C w kb_h0 (v := .ref qb) (index := 22) (T := TX3) (N := 7) rfl hi_X3 tyX3 tyX3_ok nmX3 2 (by decide) (by decide +kernel) rfl hnm rfl (tyX3_ok 2 (by decide)) rfl rfl (Nat.le_of_ble_eq_true rfl) dX3_init_63 (fun H locs w => ?_)
        obtain ⟨M6, e_M6⟩ : ∃ z, z = mu M3b h0 (eO 2 [.ref qa, .ref aT, .ref qb, .null, .null, .int 0, .int 0]) := ⟨_, rfl⟩
        have w : mS D S0 M6 F s H locs := by rw [e_M6]; exact w
        have f6_qa : M6 qa = some (eO 0 [.int 0, .int (nI 0), .int 0, .ref La, .ref Ta]) := by rw [e_M6]; exact mu_k (m_ne kb_qa kb_h0 (by first | exact ne_LT | exact ne_LI | exact ne_LH | exact ne_TL | exact ne_IL | exact ne_IH | exact ne_IT | exact ne_HL | exact ne_HI | exact ne_TI | exact ne_OA | exact ne_AO | (intro h; cases h))) kb_qa
        have f6_aT : M6 aT = some (eH y 12 (fun j => if j < 12 then some qa else none)) := by rw [e_M6]; exact mu_k (m_ne kb_aT kb_h0 (by first | exact ne_LT | exact ne_LI | exact ne_LH | exact ne_TL | exact ne_IL | exact ne_IH | exact ne_IT | exact ne_HL | exact ne_HI | exact ne_TI | exact ne_OA | exact ne_AO | (intro h; cases h))) kb_aT
        have f6_qb : M6 qb = some (eO 0 [.int 0, .int (nI 64), .int 0, .ref Lb, .ref Tb]) := by rw [e_M6]; exact mu_k (m_ne g_qb kb_h0 (by first | exact ne_LT | exact ne_LI | exact ne_LH | exact ne_TL | exact ne_IL | exact ne_IH | exact ne_IT | exact ne_HL | exact ne_HI | exact ne_TI | exact ne_OA | exact ne_AO | (intro h; cases h))) g_qb
        have f6_Lb : M6 Lb = some (eL y 64 (fun _ => 0)) := by rw [e_M6]; exact mu_k (m_ne gLb kb_h0 (by first | exact ne_LT | exact ne_LI | exact ne_LH | exact ne_TL | exact ne_IL | exact ne_IH | exact ne_IT | exact ne_HL | exact ne_HI | exact ne_TI | exact ne_OA | exact ne_AO | (intro h; cases h))) gLb
        have f6_Tb : M6 Tb = some (eT y 64 (fun _ => none)) := by rw [e_M6]; exact mu_k (m_ne gTb kb_h0 (by first | exact ne_LT | exact ne_LI | exact ne_LH | exact ne_TL | exact ne_IL | exact ne_IH | exact ne_IT | exact ne_HL | exact ne_HI | exact ne_TI | exact ne_OA | exact ne_AO | (intro h; cases h))) gTb
        have f6_h0 : M6 h0 = some (eO 2 [.ref qa, .ref aT, .ref qb, .null, .null, .int 0, .int 0]) := by rw [e_M6]; exact mu_s
        refine lv_aload_n hx hb dX3_init_66 rfl (lv_at hl 1 rfl) ?_
        refine lv_null hx hb dX3_init_67 ?_
        refine m_put C w f6_h0 (v := .null) (index := 25) (T := TX3) (N := 7) rfl hi_X3 tyX3 tyX3_ok nmX3 3 (by decide) (by decide +kernel) rfl (tyX3_ok 3 (by decide)) rfl rfl (Nat.le_of_ble_eq_true rfl) dX3_init_68 (fun H locs w => ?_)
        obtain ⟨M7, e_M7⟩ : ∃ z, z = mu M6 h0 (eO 2 [.ref qa, .ref aT, .ref qb, .null, .null, .int 0, .int 0]) := ⟨_, rfl⟩
        have w : mS D S0 M7 F s H locs := by rw [e_M7]; exact w
        have f7_qa : M7 qa = some (eO 0 [.int 0, .int (nI 0), .int 0, .ref La, .ref Ta]) := by rw [e_M7]; exact mu_k (m_ne f6_qa f6_h0 (by first | exact ne_LT | exact ne_LI | exact ne_LH | exact ne_TL | exact ne_IL | exact ne_IH | exact ne_IT | exact ne_HL | exact ne_HI | exact ne_TI | exact ne_OA | exact ne_AO | (intro h; cases h))) f6_qa
        have f7_aT : M7 aT = some (eH y 12 (fun j => if j < 12 then some qa else none)) := by rw [e_M7]; exact mu_k (m_ne f6_aT f6_h0 (by first | exact ne_LT | exact ne_LI | exact ne_LH | exact ne_TL | exact ne_IL | exact ne_IH | exact ne_IT | exact ne_HL | exact ne_HI | exact ne_TI | exact ne_OA | exact ne_AO | (intro h; cases h))) f6_aT
        have f7_qb : M7 qb = some (eO 0 [.int 0, .int (nI 64), .int 0, .ref Lb, .ref Tb]) := by rw [e_M7]; exact mu_k (m_ne f6_qb f6_h0 (by first | exact ne_LT | exact ne_LI | exact ne_LH | exact ne_TL | exact ne_IL | exact ne_IH | exact ne_IT | exact ne_HL | exact ne_HI | exact ne_TI | exact ne_OA | exact ne_AO | (intro h; cases h))) f6_qb
        have f7_Lb : M7 Lb = some (eL y 64 (fun _ => 0)) := by rw [e_M7]; exact mu_k (m_ne f6_Lb f6_h0 (by first | exact ne_LT | exact ne_LI | exact ne_LH | exact ne_TL | exact ne_IL | exact ne_IH | exact ne_IT | exact ne_HL | exact ne_HI | exact ne_TI | exact ne_OA | exact ne_AO | (intro h; cases h))) f6_Lb
        have f7_Tb : M7 Tb = some (eT y 64 (fun _ => none)) := by rw [e_M7]; exact mu_k (m_ne f6_Tb f6_h0 (by first | exact ne_LT | exact ne_LI | exact ne_LH | exact ne_TL | exact ne_IL | exact ne_IH | exact ne_IT | exact ne_HL | exact ne_HI | exact ne_TI | exact ne_OA | exact ne_AO | (intro h; cases h))) f6_Tb
        have f7_h0 : M7 h0 = some (eO 2 [.ref qa, .ref aT, .ref qb, .null, .null, .int 0, .int 0]) := by rw [e_M7]; exact mu_s
        refine lv_aload_n hx hb dX3_init_71 rfl (lv_at hl 1 rfl) ?_
        refine lv_bipush (v := 6) hx hb dX3_init_72 (by decide) ?_
        refine m_newI C w (by decide +kernel) 6 rfl (by omega) (Nat.le_of_ble_eq_true rfl) (Nat.le_of_ble_eq_true rfl) dX3_init_74 (fun aY H hMaY hFaY w => ?_)
        obtain ⟨M8, e_M8⟩ : ∃ z, z = mu M7 aY (eI y 6 (fun _ => 0)) := ⟨_, rfl⟩
        rw [← e_M8] at w
        have f8_h0 : M8 h0 = some (eO 2 [.ref qa, .ref aT, .ref qb, .null, .null, .int 0, .int 0]) := by rw [e_M8]; exact mu_k (m_fr f7_h0 hMaY) f7_h0
        have f8_qa : M8 qa = some (eO 0 [.int 0, .int (nI 0), .int 0, .ref La, .ref Ta]) := by rw [e_M8]; exact mu_k (m_fr f7_qa hMaY) f7_qa
        have f8_aT : M8 aT = some (eH y 12 (fun j => if j < 12 then some qa else none)) := by rw [e_M8]; exact mu_k (m_fr f7_aT hMaY) f7_aT
        have f8_qb : M8 qb = some (eO 0 [.int 0, .int (nI 64), .int 0, .ref Lb, .ref Tb]) := by rw [e_M8]; exact mu_k (m_fr f7_qb hMaY) f7_qb
        have f8_Lb : M8 Lb = some (eL y 64 (fun _ => 0)) := by rw [e_M8]; exact mu_k (m_fr f7_Lb hMaY) f7_Lb
        have f8_Tb : M8 Tb = some (eT y 64 (fun _ => none)) := by rw [e_M8]; exact mu_k (m_fr f7_Tb hMaY) f7_Tb
        have f8_aY : M8 aY = some (eI y 6 (fun _ => 0)) := by rw [e_M8]; exact mu_s
        refine m_putF C w f8_h0 (v := .ref aY) (index := 28) (T := TX3) (N := 7) rfl hi_X3 tyX3 tyX3_ok nmX3 4 (by decide) (by decide +kernel) rfl hnm rfl (tyX3_ok 4 (by decide)) rfl rfl (Nat.le_of_ble_eq_true rfl) dX3_init_76 (fun H locs w => ?_)
        obtain ⟨M9, e_M9⟩ : ∃ z, z = mu M8 h0 (eO 2 [.ref qa, .ref aT, .ref qb, .null, .ref aY, .int 0, .int 0]) := ⟨_, rfl⟩
        have w : mS D S0 M9 F s H locs := by rw [e_M9]; exact w
        have f9_qa : M9 qa = some (eO 0 [.int 0, .int (nI 0), .int 0, .ref La, .ref Ta]) := by rw [e_M9]; exact mu_k (m_ne f8_qa f8_h0 (by first | exact ne_LT | exact ne_LI | exact ne_LH | exact ne_TL | exact ne_IL | exact ne_IH | exact ne_IT | exact ne_HL | exact ne_HI | exact ne_TI | exact ne_OA | exact ne_AO | (intro h; cases h))) f8_qa
        have f9_aT : M9 aT = some (eH y 12 (fun j => if j < 12 then some qa else none)) := by rw [e_M9]; exact mu_k (m_ne f8_aT f8_h0 (by first | exact ne_LT | exact ne_LI | exact ne_LH | exact ne_TL | exact ne_IL | exact ne_IH | exact ne_IT | exact ne_HL | exact ne_HI | exact ne_TI | exact ne_OA | exact ne_AO | (intro h; cases h))) f8_aT
        have f9_qb : M9 qb = some (eO 0 [.int 0, .int (nI 64), .int 0, .ref Lb, .ref Tb]) := by rw [e_M9]; exact mu_k (m_ne f8_qb f8_h0 (by first | exact ne_LT | exact ne_LI | exact ne_LH | exact ne_TL | exact ne_IL | exact ne_IH | exact ne_IT | exact ne_HL | exact ne_HI | exact ne_TI | exact ne_OA | exact ne_AO | (intro h; cases h))) f8_qb
        have f9_Lb : M9 Lb = some (eL y 64 (fun _ => 0)) := by rw [e_M9]; exact mu_k (m_ne f8_Lb f8_h0 (by first | exact ne_LT | exact ne_LI | exact ne_LH | exact ne_TL | exact ne_IL | exact ne_IH | exact ne_IT | exact ne_HL | exact ne_HI | exact ne_TI | exact ne_OA | exact ne_AO | (intro h; cases h))) f8_Lb
        have f9_Tb : M9 Tb = some (eT y 64 (fun _ => none)) := by rw [e_M9]; exact mu_k (m_ne f8_Tb f8_h0 (by first | exact ne_LT | exact ne_LI | exact ne_LH | exact ne_TL | exact ne_IL | exact ne_IH | exact ne_IT | exact ne_HL | exact ne_HI | exact ne_TI | exact ne_OA | exact ne_AO | (intro h; cases h))) f8_Tb
        have f9_aY : M9 aY = some (eI y 6 (fun _ => 0)) := by rw [e_M9]; exact mu_k (m_ne f8_aY f8_h0 (by first | exact ne_LT | exact ne_LI | exact ne_LH | exact ne_TL | exact ne_IL | exact ne_IH | exact ne_IT | exact ne_HL | exact ne_HI | exact ne_TI | exact ne_OA | exact ne_AO | (intro h; cases h))) f8_aY
        have f9_h0 : M9 h0 = some (eO 2 [.ref qa, .ref aT, .ref qb, .null, .ref aY, .int 0, .int 0]) := by rw [e_M9]; exact mu_s
        refine lv_aload_n hx hb dX3_init_79 rfl (lv_at hl 1 rfl) ?_
        refine lv_iconst (v := 0) hx hb dX3_init_80 (by decide) ?_
        refine m_put C w f9_h0 (v := .int 0) (index := 32) (T := TX3) (N := 7) rfl hi_X3 tyX3 tyX3_ok nmX3 5 (by decide) (by decide +kernel) rfl (tyX3_ok 5 (by decide)) rfl rfl (Nat.le_of_ble_eq_true rfl) dX3_init_81 (fun H locs w => ?_)
        obtain ⟨M10, e_M10⟩ : ∃ z, z = mu M9 h0 (eO 2 [.ref qa, .ref aT, .ref qb, .null, .ref aY, .int 0, .int 0]) := ⟨_, rfl⟩
        have w : mS D S0 M10 F s H locs := by rw [e_M10]; exact w
        have f10_qa : M10 qa = some (eO 0 [.int 0, .int (nI 0), .int 0, .ref La, .ref Ta]) := by rw [e_M10]; exact mu_k (m_ne f9_qa f9_h0 (by first | exact ne_LT | exact ne_LI | exact ne_LH | exact ne_TL | exact ne_IL | exact ne_IH | exact ne_IT | exact ne_HL | exact ne_HI | exact ne_TI | exact ne_OA | exact ne_AO | (intro h; cases h))) f9_qa
        have f10_aT : M10 aT = some (eH y 12 (fun j => if j < 12 then some qa else none)) := by rw [e_M10]; exact mu_k (m_ne f9_aT f9_h0 (by first | exact ne_LT | exact ne_LI | exact ne_LH | exact ne_TL | exact ne_IL | exact ne_IH | exact ne_IT | exact ne_HL | exact ne_HI | exact ne_TI | exact ne_OA | exact ne_AO | (intro h; cases h))) f9_aT
        have f10_qb : M10 qb = some (eO 0 [.int 0, .int (nI 64), .int 0, .ref Lb, .ref Tb]) := by rw [e_M10]; exact mu_k (m_ne f9_qb f9_h0 (by first | exact ne_LT | exact ne_LI | exact ne_LH | exact ne_TL | exact ne_IL | exact ne_IH | exact ne_IT | exact ne_HL | exact ne_HI | exact ne_TI | exact ne_OA | exact ne_AO | (intro h; cases h))) f9_qb
        have f10_Lb : M10 Lb = some (eL y 64 (fun _ => 0)) := by rw [e_M10]; exact mu_k (m_ne f9_Lb f9_h0 (by first | exact ne_LT | exact ne_LI | exact ne_LH | exact ne_TL | exact ne_IL | exact ne_IH | exact ne_IT | exact ne_HL | exact ne_HI | exact ne_TI | exact ne_OA | exact ne_AO | (intro h; cases h))) f9_Lb
        have f10_Tb : M10 Tb = some (eT y 64 (fun _ => none)) := by rw [e_M10]; exact mu_k (m_ne f9_Tb f9_h0 (by first | exact ne_LT | exact ne_LI | exact ne_LH | exact ne_TL | exact ne_IL | exact ne_IH | exact ne_IT | exact ne_HL | exact ne_HI | exact ne_TI | exact ne_OA | exact ne_AO | (intro h; cases h))) f9_Tb
        have f10_aY : M10 aY = some (eI y 6 (fun _ => 0)) := by rw [e_M10]; exact mu_k (m_ne f9_aY f9_h0 (by first | exact ne_LT | exact ne_LI | exact ne_LH | exact ne_TL | exact ne_IL | exact ne_IH | exact ne_IT | exact ne_HL | exact ne_HI | exact ne_TI | exact ne_OA | exact ne_AO | (intro h; cases h))) f9_aY
        have f10_h0 : M10 h0 = some (eO 2 [.ref qa, .ref aT, .ref qb, .null, .ref aY, .int 0, .int 0]) := by rw [e_M10]; exact mu_s
        refine lv_aload_n hx hb dX3_init_84 rfl (lv_at hl 1 rfl) ?_
        refine lv_iconst (v := 0) hx hb dX3_init_85 (by decide) ?_
        refine m_put C w f10_h0 (v := .int 0) (index := 36) (T := TX3) (N := 7) rfl hi_X3 tyX3 tyX3_ok nmX3 6 (by decide) (by decide +kernel) rfl (tyX3_ok 6 (by decide)) rfl rfl (Nat.le_of_ble_eq_true rfl) dX3_init_86 (fun H locs w => ?_)
        obtain ⟨M11, e_M11⟩ : ∃ z, z = mu M10 h0 (eO 2 [.ref qa, .ref aT, .ref qb, .null, .ref aY, .int 0, .int 0]) := ⟨_, rfl⟩
        have w : mS D S0 M11 F s H locs := by rw [e_M11]; exact w
        have f11_qa : M11 qa = some (eO 0 [.int 0, .int (nI 0), .int 0, .ref La, .ref Ta]) := by rw [e_M11]; exact mu_k (m_ne f10_qa f10_h0 (by first | exact ne_LT | exact ne_LI | exact ne_LH | exact ne_TL | exact ne_IL | exact ne_IH | exact ne_IT | exact ne_HL | exact ne_HI | exact ne_TI | exact ne_OA | exact ne_AO | (intro h; cases h))) f10_qa
        have f11_aT : M11 aT = some (eH y 12 (fun j => if j < 12 then some qa else none)) := by rw [e_M11]; exact mu_k (m_ne f10_aT f10_h0 (by first | exact ne_LT | exact ne_LI | exact ne_LH | exact ne_TL | exact ne_IL | exact ne_IH | exact ne_IT | exact ne_HL | exact ne_HI | exact ne_TI | exact ne_OA | exact ne_AO | (intro h; cases h))) f10_aT
        have f11_qb : M11 qb = some (eO 0 [.int 0, .int (nI 64), .int 0, .ref Lb, .ref Tb]) := by rw [e_M11]; exact mu_k (m_ne f10_qb f10_h0 (by first | exact ne_LT | exact ne_LI | exact ne_LH | exact ne_TL | exact ne_IL | exact ne_IH | exact ne_IT | exact ne_HL | exact ne_HI | exact ne_TI | exact ne_OA | exact ne_AO | (intro h; cases h))) f10_qb
        have f11_Lb : M11 Lb = some (eL y 64 (fun _ => 0)) := by rw [e_M11]; exact mu_k (m_ne f10_Lb f10_h0 (by first | exact ne_LT | exact ne_LI | exact ne_LH | exact ne_TL | exact ne_IL | exact ne_IH | exact ne_IT | exact ne_HL | exact ne_HI | exact ne_TI | exact ne_OA | exact ne_AO | (intro h; cases h))) f10_Lb
        have f11_Tb : M11 Tb = some (eT y 64 (fun _ => none)) := by rw [e_M11]; exact mu_k (m_ne f10_Tb f10_h0 (by first | exact ne_LT | exact ne_LI | exact ne_LH | exact ne_TL | exact ne_IL | exact ne_IH | exact ne_IT | exact ne_HL | exact ne_HI | exact ne_TI | exact ne_OA | exact ne_AO | (intro h; cases h))) f10_Tb
        have f11_aY : M11 aY = some (eI y 6 (fun _ => 0)) := by rw [e_M11]; exact mu_k (m_ne f10_aY f10_h0 (by first | exact ne_LT | exact ne_LI | exact ne_LH | exact ne_TL | exact ne_IL | exact ne_IH | exact ne_IT | exact ne_HL | exact ne_HI | exact ne_TI | exact ne_OA | exact ne_AO | (intro h; cases h))) f10_aY
        have f11_h0 : M11 h0 = some (eO 2 [.ref qa, .ref aT, .ref qb, .null, .ref aY, .int 0, .int 0]) := by rw [e_M11]; exact mu_s
        have hne : Tb ≠ aT := fun e => by rw [e, hT2] at mTb; cases mTb
        have w := m_cong (g := fun _ => some qa) w f11_aT (fun j hj => if_pos hj)
        exact m_vret C w dX3_init_89 (by omega) (by omega) (⟨rfl, CW_00 (mu_k (m_ne f11_h0 f11_aT ne_OA) f11_h0) (mu_k (m_ne f11_qa f11_aT ne_OA) f11_qa) mu_s (mu_k (m_ne f11_qb f11_aT ne_OA) f11_qb) (mu_k (m_ne f11_aY f11_aT ne_IH) f11_aY) (mu_k (m_ne f11_Lb f11_aT ne_LH) f11_Lb) (mu_k hne f11_Tb) hne⟩)
      · skip
        have n_32 : ¬ 12 ≤ i := fun h => absurd ((nI_leI (by omega) (by omega)).mpr h) c_32
        refine lv_aload_n hx hb dX3_init_35 rfl (lv_at hl 1 rfl) ?_
        refine m_get C w hb2 (index := 18) (T := TX3) (N := 7) rfl hi_X3 1 (by decide) (by decide +kernel) rfl dX3_init_36 ?_
        refine lv_iload_n hx hb dX3_init_39 rfl (lv_at hl 0 rfl) ?_
        refine lv_aload_n hx hb dX3_init_40 rfl (lv_at hl 1 rfl) ?_
        refine m_get C w hb2 (index := 14) (T := TX3) (N := 7) rfl hi_X3 0 (by decide) (by decide +kernel) rfl dX3_init_41 ?_
        refine m_hast C w hT2 hn2 i rfl (by omega) (by omega) dX3_init_44 (fun H locs w => ?_)
        obtain ⟨M5, e_M5⟩ : ∃ z, z = mu M2 aT (eH y 12 (va_up (fun j => if j < i then some qa else none) i (some qa))) := ⟨_, rfl⟩
        have w : mS D S0 M5 F s H locs := by rw [e_M5]; exact w
        refine lv_iinc (v := nI (i + 1)) (lv' := [(1, .int (nI (i + 1))), (0, .ref h0)]) hx hb dX3_init_45 hl (k := 0) rfl (by first | exact nI_1 _ | exact nI_add _ _ | rfl) (by decide) rfl (fun ls hl => ?_)
        refine lv_goto (tgt := 29) hx hb dX3_init_48 (by decide) ?_
        exact ih_lp (12 - (i + 1)) (by omega) (i + 1) _ (by omega) (by rw [e_M5]; exact mu_k (m_ne hb2 hT2 ne_OA) hb2) (by rw [e_M5]; exact mu_k (m_ne hn2 hT2 ne_OA) hn2) (by
            rw [e_M5, mu_s]
            congr 5
            funext j
            by_cases e : j = i
            · rw [e, va_ups, if_pos (by omega)]
            · rw [va_upo e]
              have hiff : j < i ↔ j < i + 1 := by omega
              simp only [hiff]) _ _ ls rfl w (lv_sub hl [0, 1] rfl)
  exact lp _ 0 _ (by omega) f4_h0 f4_qa (by rw [f4_aT]; congr 3) _ _ ls rfl w (lv_sub hl [0, 1] rfl)
