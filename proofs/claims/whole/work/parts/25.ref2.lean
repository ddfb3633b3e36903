theorem bv_toInt (v : Int32) : v.toInt = (v.toBitVec.toNat : Int) ∨ v.toInt = (v.toBitVec.toNat : Int) - 4294967296 := by
  have h := BitVec.toInt_eq_toNat_cond v.toBitVec
  have e : v.toInt = v.toBitVec.toInt := rfl
  rw [e, h]
  split
  · exact Or.inl rfl
  · exact Or.inr rfl
theorem nar8 (v : Int32) : (v &&& 255 ≤ 127 → v &&& 255 = v.toInt8.toInt32) ∧ (¬ v &&& 255 ≤ 127 → (v &&& 255) - 256 = v.toInt8.toInt32) := by
  have h1 : v &&& 255 = nI (v.toBitVec.toNat % 256) := pk_and v 8 (by decide)
  have hm := Nat.mod_lt v.toBitVec.toNat (show 0 < 256 by decide)
  have h2 : v.toInt8.toInt32.toInt = v.toInt.bmod 256 := by
    rw [Int8.toInt_toInt32, Int32.toInt_toInt8]
  rw [Int.bmod_def] at h2
  have h3 := bv_toInt v
  rw [h1]
  constructor
  · intro h
    have h4 := (nI_leI (b := 127) (by omega) (by decide)).mp h
    apply Int32.toInt_inj.mp
    rw [nI_toInt (by omega), h2]
    split <;> rcases h3 with q | q <;> omega
  · intro h
    have h4 : ¬ v.toBitVec.toNat % 256 ≤ 127 := fun q => h ((nI_leI (b := 127) (by omega) (by decide)).mpr q)
    apply Int32.toInt_inj.mp
    rw [show (256 : Int32) = nI 256 from rfl, pk_sub_toInt (by omega) (by decide), h2]
    split <;> rcases h3 with q | q <;> omega
theorem nar16 (v : Int32) : (v &&& 65535 ≤ 32767 → v &&& 65535 = v.toInt16.toInt32) ∧ (¬ v &&& 65535 ≤ 32767 → (v &&& 65535) - 65536 = v.toInt16.toInt32) := by
  have h1 : v &&& 65535 = nI (v.toBitVec.toNat % 65536) := pk_and v 16 (by decide)
  have hm := Nat.mod_lt v.toBitVec.toNat (show 0 < 65536 by decide)
  have h2 : v.toInt16.toInt32.toInt = v.toInt.bmod 65536 := by
    rw [Int16.toInt_toInt32, Int32.toInt_toInt16]
  rw [Int.bmod_def] at h2
  have h3 := bv_toInt v
  rw [h1]
  constructor
  · intro h
    have h4 := (nI_leI (b := 32767) (by omega) (by decide)).mp h
    apply Int32.toInt_inj.mp
    rw [nI_toInt (by omega), h2]
    split <;> rcases h3 with q | q <;> omega
  · intro h
    have h4 : ¬ v.toBitVec.toNat % 65536 ≤ 32767 := fun q => h ((nI_leI (b := 32767) (by omega) (by decide)).mpr q)
    apply Int32.toInt_inj.mp
    rw [show (65536 : Int32) = nI 65536 from rfl, pk_sub_toInt (by omega) (by decide), h2]
    split <;> rcases h3 with q | q <;> omega
theorem narC (v : Int32) : v &&& 65535 = (v.toUInt32 % 65536).toInt32 := by
  rw [pk_char]
  exact pk_and v 16 (by decide)
theorem nI_up {f : Nat → Nat} {a v : Nat} : va_up (fun k => nI (f k)) a (nI v) = fun k => nI (va_up f a v k) := by
  funext k
  by_cases e : k = a
  · rw [e, va_ups, va_ups]
  · rw [va_upo e, va_upo e]
set_option maxRecDepth 100000 in
set_option maxHeartbeats 4000000 in
theorem r_narrowed (l : Launch) (D : va_G) (y : mY) (S0 : Nat) (M F : mp) (k : Nat) (hk : k < 14) (v1 : Int32) : ct l yX4_narrowed wsX4_narrowed 0 0 0 0 D y S0 M F [.int (nI k), .int v1] (fun v M' => v = some (.long (nw k v1)) ∧ M' = M) := by
  refine ct_of cX4_narrowed 2 (some .long) [(0, .int (nI k)), (1, .int v1)] (by decide +kernel) rfl (Nat.le_of_ble_eq_true rfl) rfl ?_
  intro p e s m below meth c ls C hnm hl w
  have hx := C.1
  have hb := C.2.1
  refine lv_iload_n hx hb dX4_narrowed_0 rfl (lv_at hl 0 rfl) ?_
  have hkI : (nI k).toInt = (k : Int) := nI_toInt (by omega)
  by_cases kd : k < 2 ∨ 8 < k
  · refine lv_tableOut (tgt := 121) hx hb dX4_narrowed_1 (by rw [hkI]; omega) (by decide) ?_
    refine lv_iload_n hx hb dX4_narrowed_121 rfl (lv_at hl 1 rfl) ?_
    refine lv_i2l hx hb dX4_narrowed_122 rfl ?_
    exact m_lret C w dX4_narrowed_123 (by omega) (by omega) (⟨by unfold nw; rw [if_neg (by omega), if_neg (by omega), if_neg (by omega), if_neg (by omega), if_neg (by omega)], rfl⟩)
  rcases (show k = 2 ∨ k = 3 ∨ k = 4 ∨ k = 5 ∨ k = 6 ∨ k = 7 ∨ k = 8 by omega) with rfl | rfl | rfl | rfl | rfl | rfl | rfl
  · refine lv_tableIn (tgt := 44) (off := 43) hx hb dX4_narrowed_1 (by rw [hkI]; decide) (by rw [hkI]; decide) (by rw [hkI]; rfl) (by decide) ?_
    refine lv_iload_n hx hb dX4_narrowed_44 rfl (lv_at hl 1 rfl) ?_
    refine lv_if_ne (tgt := 52) hx hb dX4_narrowed_45 (by decide) (fun c_45 => ?_) (fun c_45 => ?_)
    · skip
      refine lv_lconst (v := 1) hx hb dX4_narrowed_52 (by decide) ?_
      exact m_lret C w dX4_narrowed_53 (by omega) (by omega) (⟨by simp [nw, c_45], rfl⟩)
    · skip
      refine lv_lconst (v := 0) hx hb dX4_narrowed_48 (by decide) ?_
      refine lv_goto (tgt := 53) hx hb dX4_narrowed_49 (by decide) ?_
      exact m_lret C w dX4_narrowed_53 (by omega) (by omega) (⟨by simp [nw, c_45], rfl⟩)
  · refine lv_tableIn (tgt := 54) (off := 53) hx hb dX4_narrowed_1 (by rw [hkI]; decide) (by rw [hkI]; decide) (by rw [hkI]; rfl) (by decide) ?_
    refine lv_iload_n hx hb dX4_narrowed_54 rfl (lv_at hl 1 rfl) ?_
    refine lv_sipush (v := 255) hx hb dX4_narrowed_55 (by decide) ?_
    refine lv_iand hx hb dX4_narrowed_58 ?_
    refine lv_bipush (v := 127) hx hb dX4_narrowed_59 (by decide) ?_
    refine lv_icmp_le (tgt := 77) hx hb dX4_narrowed_61 (by decide) (fun c_61 => ?_) (fun c_61 => ?_)
    · skip
      refine lv_iload_n hx hb dX4_narrowed_77 rfl (lv_at hl 1 rfl) ?_
      refine lv_sipush (v := 255) hx hb dX4_narrowed_78 (by decide) ?_
      refine lv_iand hx hb dX4_narrowed_81 ?_
      refine lv_i2l hx hb dX4_narrowed_82 rfl ?_
      exact m_lret C w dX4_narrowed_83 (by omega) (by omega) (⟨congrArg (fun z : Int32 => some (Value.long z.toInt64)) ((nar8 v1).1 c_61), rfl⟩)
    · skip
      refine lv_iload_n hx hb dX4_narrowed_64 rfl (lv_at hl 1 rfl) ?_
      refine lv_sipush (v := 255) hx hb dX4_narrowed_65 (by decide) ?_
      refine lv_iand hx hb dX4_narrowed_68 ?_
      refine lv_sipush (v := 256) hx hb dX4_narrowed_69 (by decide) ?_
      refine lv_isub hx hb dX4_narrowed_72 ?_
      refine lv_i2l hx hb dX4_narrowed_73 rfl ?_
      refine lv_goto (tgt := 83) hx hb dX4_narrowed_74 (by decide) ?_
      exact m_lret C w dX4_narrowed_83 (by omega) (by omega) (⟨congrArg (fun z : Int32 => some (Value.long z.toInt64)) ((nar8 v1).2 c_61), rfl⟩)
  · refine lv_tableIn (tgt := 84) (off := 83) hx hb dX4_narrowed_1 (by rw [hkI]; decide) (by rw [hkI]; decide) (by rw [hkI]; rfl) (by decide) ?_
    refine lv_iload_n hx hb dX4_narrowed_84 rfl (lv_at hl 1 rfl) ?_
    refine lv_ldc (v := 65535) hx hb C.2.2.2.1 (C.2.2.2.2.1 (.constant RX4 69 65535) (by decide +kernel)) dX4_narrowed_85 ?_
    refine lv_iand hx hb dX4_narrowed_87 ?_
    refine lv_i2l hx hb dX4_narrowed_88 rfl ?_
    exact m_lret C w dX4_narrowed_89 (by omega) (by omega) (⟨congrArg (fun z : Int32 => some (Value.long z.toInt64)) (narC v1), rfl⟩)
  · refine lv_tableIn (tgt := 90) (off := 89) hx hb dX4_narrowed_1 (by rw [hkI]; decide) (by rw [hkI]; decide) (by rw [hkI]; rfl) (by decide) ?_
    refine lv_iload_n hx hb dX4_narrowed_90 rfl (lv_at hl 1 rfl) ?_
    refine lv_ldc (v := 65535) hx hb C.2.2.2.1 (C.2.2.2.2.1 (.constant RX4 69 65535) (by decide +kernel)) dX4_narrowed_91 ?_
    refine lv_iand hx hb dX4_narrowed_93 ?_
    refine lv_sipush (v := 32767) hx hb dX4_narrowed_94 (by decide) ?_
    refine lv_icmp_le (tgt := 111) hx hb dX4_narrowed_97 (by decide) (fun c_97 => ?_) (fun c_97 => ?_)
    · skip
      refine lv_iload_n hx hb dX4_narrowed_111 rfl (lv_at hl 1 rfl) ?_
      refine lv_ldc (v := 65535) hx hb C.2.2.2.1 (C.2.2.2.2.1 (.constant RX4 69 65535) (by decide +kernel)) dX4_narrowed_112 ?_
      refine lv_iand hx hb dX4_narrowed_114 ?_
      refine lv_i2l hx hb dX4_narrowed_115 rfl ?_
      exact m_lret C w dX4_narrowed_116 (by omega) (by omega) (⟨congrArg (fun z : Int32 => some (Value.long z.toInt64)) ((nar16 v1).1 c_97), rfl⟩)
    · skip
      refine lv_iload_n hx hb dX4_narrowed_100 rfl (lv_at hl 1 rfl) ?_
      refine lv_ldc (v := 65535) hx hb C.2.2.2.1 (C.2.2.2.2.1 (.constant RX4 69 65535) (by decide +kernel)) dX4_narrowed_101 ?_
      refine lv_iand hx hb dX4_narrowed_103 ?_
      refine lv_ldc (v := 65536) hx hb C.2.2.2.1 (C.2.2.2.2.1 (.constant RX4 70 65536) (by decide +kernel)) dX4_narrowed_104 ?_
      refine lv_isub hx hb dX4_narrowed_106 ?_
      refine lv_i2l hx hb dX4_narrowed_107 rfl ?_
      refine lv_goto (tgt := 116) hx hb dX4_narrowed_108 (by decide) ?_
      exact m_lret C w dX4_narrowed_116 (by omega) (by omega) (⟨congrArg (fun z : Int32 => some (Value.long z.toInt64)) ((nar16 v1).2 c_97), rfl⟩)
  · refine lv_tableIn (tgt := 121) (off := 120) hx hb dX4_narrowed_1 (by rw [hkI]; decide) (by rw [hkI]; decide) (by rw [hkI]; rfl) (by decide) ?_
    refine lv_iload_n hx hb dX4_narrowed_121 rfl (lv_at hl 1 rfl) ?_
    refine lv_i2l hx hb dX4_narrowed_122 rfl ?_
    exact m_lret C w dX4_narrowed_123 (by omega) (by omega) (⟨by simp [nw], rfl⟩)
  · refine lv_tableIn (tgt := 121) (off := 120) hx hb dX4_narrowed_1 (by rw [hkI]; decide) (by rw [hkI]; decide) (by rw [hkI]; rfl) (by decide) ?_
    refine lv_iload_n hx hb dX4_narrowed_121 rfl (lv_at hl 1 rfl) ?_
    refine lv_i2l hx hb dX4_narrowed_122 rfl ?_
    exact m_lret C w dX4_narrowed_123 (by omega) (by omega) (⟨by simp [nw], rfl⟩)
  · refine lv_tableIn (tgt := 117) (off := 116) hx hb dX4_narrowed_1 (by rw [hkI]; decide) (by rw [hkI]; decide) (by rw [hkI]; rfl) (by decide) ?_
    refine lv_iload_n hx hb dX4_narrowed_117 rfl (lv_at hl 1 rfl) ?_
    refine lv_i2f hx hb dX4_narrowed_118 ?_
    refine lv_f2l hx hb dX4_narrowed_119 ?_
    exact m_lret C w dX4_narrowed_120 (by omega) (by omega) (⟨by simp [nw], rfl⟩)
set_option maxRecDepth 100000 in
set_option maxHeartbeats 4000000 in
theorem r_made (l : Launch) (D : va_G) (y : mY) (S0 : Nat) (M F : mp) (m0 : Nat) (B : Nat → Nat) (fr : Nat → Nat) (nc : Nat) (cl go bf bq : Nat → Int64) (cn : Nat → Int32) (S : St) (hW : MW y m0 B fr nc cl go bf cn S M) (hQ : MR fr nc cl bq cn S) (c0 : Nat) (hI : Inv c0 S) (v1 : Int32) : ct l yX4_made wsX4_made 0 0 0 0 D y S0 M F [.ref m0, .int v1] (fun v M' => v = some (.long (mkP S v1).1) ∧ MW y m0 B fr nc cl go bf cn (mkP S v1).2 M' ∧ MR fr nc cl bq cn (mkP S v1).2) := by
  refine ct_of cX4_made 3 (some .long) [(0, .ref m0), (1, .int v1)] (by decide +kernel) rfl (Nat.le_of_ble_eq_true rfl) rfl ?_
  intro p e s m below meth c ls C hnm hl w
  have hx := C.1
  have hb := C.2.1
  have hi_X4 : ∀ w ∈ u_ws RX4 TX4 16, w ∈ wsX4_made := by decide +kernel
  have hfm5 := fmd_lt v1 (m := 5) (by omega)
  refine lv_iload_n hx hb dX4_made_0 rfl (lv_at hl 1 rfl) ?_
  refine lv_iconst (v := 5) hx hb dX4_made_1 (by decide) ?_
  refine lv_irem hx hb dX4_made_2 (by decide) ?_
  refine lv_if_ge (tgt := 14) hx hb dX4_made_3 (by decide) (fun c_3 => ?_) (fun c_3 => ?_)
  · skip
    refine lv_iload_n hx hb dX4_made_14 rfl (lv_at hl 1 rfl) ?_
    refine lv_iconst (v := 5) hx hb dX4_made_15 (by decide) ?_
    refine lv_irem hx hb dX4_made_16 (by decide) ?_
    refine m_topi (y := nI (fmd v1 5)) (fmd_pos v1 (m := 5) (by omega) (by omega) (Int32.not_lt.mpr c_3)) ?_
    refine lv_istore_n (lv' := [(2, .int (nI (fmd v1 5))), (0, .ref m0), (1, .int v1)]) hx hb dX4_made_17 rfl hl (by decide) rfl (fun ls hl => ?_)
    refine lv_iload_n hx hb dX4_made_18 rfl (lv_at hl 0 rfl) ?_
    refine lv_if_ne (tgt := 24) hx hb dX4_made_19 (by decide) (fun c_19 => ?_) (fun c_19 => ?_)
    · skip
      have n_19 : ¬ (fmd v1 5) = 0 := fun h => absurd ((nI_eq (by omega) (by omega)).mpr h) c_19
      refine lv_aload_n hx hb dX4_made_24 rfl (lv_at hl 1 rfl) ?_
      refine lv_dup hx hb dX4_made_25 rfl ?_
      refine m_get C w hW.1 (index := 71) (T := TX4) (N := 16) rfl hi_X4 10 (by decide) (by decide +kernel) rfl dX4_made_26 ?_
      refine lv_iconst (v := 1) hx hb dX4_made_29 (by decide) ?_
      refine lv_iadd hx hb dX4_made_30 ?_
      refine m_topi (y := nI ((sP S) + 1)) (by first | exact nI_add _ _ | exact nI_1 _) ?_
      refine m_put C w hW.1 (v := .int (nI (sP S + 1))) (index := 71) (T := TX4) (N := 16) rfl hi_X4 tyX4 tyX4_ok nmX4 10 (by decide) (by decide +kernel) rfl (tyX4_ok 10 (by decide)) rfl rfl (Nat.le_of_ble_eq_true rfl) dX4_made_31 (fun H locs w => ?_)
      obtain ⟨M1, e_M1⟩ : ∃ z, z = mu M m0 (eO 3 (mFl B nc (wPc S (sP S + 1) (sS S)))) := ⟨_, rfl⟩
      have w : mS D S0 M1 F s H locs := by rw [e_M1]; exact w
      have hW1 : MW y m0 B fr nc cl go bf cn (wPc S (sP S + 1) (sS S)) M1 := by rw [e_M1]; exact hW.fld (by intro k hk; rcases (show k = 0 ∨ k = 1 ∨ k = 2 ∨ k = 3 ∨ k = 4 ∨ k = 5 ∨ k = 6 ∨ k = 7 ∨ k = 8 ∨ k = 9 ∨ k = 10 by omega) with rfl | rfl | rfl | rfl | rfl | rfl | rfl | rfl | rfl | rfl | rfl <;> rfl)
      have hb1 := hI.2.1
      have hb2 := hI.2.2.1
      refine lv_aload_n hx hb dX4_made_34 rfl (lv_at hl 1 rfl) ?_
      refine m_get C w hW1.1 (index := 30) (T := TX4) (N := 16) rfl hi_X4 8 (by decide) (by decide +kernel) rfl dX4_made_35 ?_
      refine lv_aload_n hx hb dX4_made_38 rfl (lv_at hl 1 rfl) ?_
      refine m_get C w hW1.1 (index := 71) (T := TX4) (N := 16) rfl hi_X4 10 (by decide) (by decide +kernel) rfl dX4_made_39 ?_
      refine lv_iload_n hx hb dX4_made_42 rfl (lv_at hl 0 rfl) ?_
      refine m_iast C w hW1.a6 (sP S + 1) rfl (by omega) (by omega) dX4_made_43 (fun H locs w => ?_)
      have hW2 := hW1.set (nc' := nc) (fr' := fr) (cl' := cl) (go' := go) (bf' := bf) (cn' := cn) (S' := wPc S (sP S + 1) (va_up (sS S) (sP S + 1) (fmd v1 5))) 6 (by decide) rfl (by intro k hk hne; rcases (show k = 0 ∨ k = 1 ∨ k = 2 ∨ k = 3 ∨ k = 4 ∨ k = 5 ∨ k = 6 ∨ k = 7 ∨ k = 8 ∨ k = 9 ∨ k = 10 by omega) with rfl | rfl | rfl | rfl | rfl | rfl | rfl | rfl | rfl | rfl | rfl <;> first | rfl | exact absurd rfl hne) (congrArg (eI y 520) nI_up.symm)
      refine lv_aload_n hx hb dX4_made_44 rfl (lv_at hl 1 rfl) ?_
      refine m_get C w hW2.1 (index := 71) (T := TX4) (N := 16) rfl hi_X4 10 (by decide) (by decide +kernel) rfl dX4_made_45 ?_
      refine lv_i2l (v := lN (sP S + 1)) hx hb dX4_made_48 (nI_l (show sP S + 1 < 2 ^ 31 by omega)) ?_
      exact m_lret C w dX4_made_49 (by omega) (by omega) (by
        have hm : mkP S v1 = (lN (sP S + 1), wPc S (sP S + 1) (va_up (sS S) (sP S + 1) (fmd v1 5))) := by unfold mkP; rw [if_neg (show ¬ md5 v1 = 0 from n_19)]; rfl
        rw [hm]
        exact ⟨rfl, hW2, hQ⟩)
    · skip
      have n_19 : (fmd v1 5) = 0 := (nI_eq (by omega) (by omega)).mp (by first | exact c_19 | exact Classical.not_not.mp c_19)
      refine lv_lconst (v := 0) hx hb dX4_made_22 (by decide) ?_
      exact m_lret C w dX4_made_23 (by omega) (by omega) (by
        have hm : mkP S v1 = (0, S) := by unfold mkP; rw [if_pos (show md5 v1 = 0 from n_19)]
        rw [hm]
        exact ⟨rfl, hW, hQ⟩)
  · skip
    refine lv_iload_n hx hb dX4_made_6 rfl (lv_at hl 1 rfl) ?_
    refine lv_iconst (v := 5) hx hb dX4_made_7 (by decide) ?_
    refine lv_irem hx hb dX4_made_8 (by decide) ?_
    refine lv_iconst (v := 5) hx hb dX4_made_9 (by decide) ?_
    refine lv_iadd hx hb dX4_made_10 ?_
    refine m_topi (y := nI (fmd v1 5)) (fmd_neg v1 (m := 5) (by omega) (by omega) (Int32.not_le.mp c_3)) ?_
    refine lv_goto (tgt := 17) hx hb dX4_made_11 (by decide) ?_
    refine lv_istore_n (lv' := [(2, .int (nI (fmd v1 5))), (0, .ref m0), (1, .int v1)]) hx hb dX4_made_17 rfl hl (by decide) rfl (fun ls hl => ?_)
    refine lv_iload_n hx hb dX4_made_18 rfl (lv_at hl 0 rfl) ?_
    refine lv_if_ne (tgt := 24) hx hb dX4_made_19 (by decide) (fun c_19 => ?_) (fun c_19 => ?_)
    · skip
      have n_19 : ¬ (fmd v1 5) = 0 := fun h => absurd ((nI_eq (by omega) (by omega)).mpr h) c_19
      refine lv_aload_n hx hb dX4_made_24 rfl (lv_at hl 1 rfl) ?_
      refine lv_dup hx hb dX4_made_25 rfl ?_
      refine m_get C w hW.1 (index := 71) (T := TX4) (N := 16) rfl hi_X4 10 (by decide) (by decide +kernel) rfl dX4_made_26 ?_
      refine lv_iconst (v := 1) hx hb dX4_made_29 (by decide) ?_
      refine lv_iadd hx hb dX4_made_30 ?_
      refine m_topi (y := nI ((sP S) + 1)) (by first | exact nI_add _ _ | exact nI_1 _) ?_
      refine m_put C w hW.1 (v := .int (nI (sP S + 1))) (index := 71) (T := TX4) (N := 16) rfl hi_X4 tyX4 tyX4_ok nmX4 10 (by decide) (by decide +kernel) rfl (tyX4_ok 10 (by decide)) rfl rfl (Nat.le_of_ble_eq_true rfl) dX4_made_31 (fun H locs w => ?_)
      obtain ⟨M1, e_M1⟩ : ∃ z, z = mu M m0 (eO 3 (mFl B nc (wPc S (sP S + 1) (sS S)))) := ⟨_, rfl⟩
      have w : mS D S0 M1 F s H locs := by rw [e_M1]; exact w
      have hW1 : MW y m0 B fr nc cl go bf cn (wPc S (sP S + 1) (sS S)) M1 := by rw [e_M1]; exact hW.fld (by intro k hk; rcases (show k = 0 ∨ k = 1 ∨ k = 2 ∨ k = 3 ∨ k = 4 ∨ k = 5 ∨ k = 6 ∨ k = 7 ∨ k = 8 ∨ k = 9 ∨ k = 10 by omega) with rfl | rfl | rfl | rfl | rfl | rfl | rfl | rfl | rfl | rfl | rfl <;> rfl)
      have hb1 := hI.2.1
      have hb2 := hI.2.2.1
      refine lv_aload_n hx hb dX4_made_34 rfl (lv_at hl 1 rfl) ?_
      refine m_get C w hW1.1 (index := 30) (T := TX4) (N := 16) rfl hi_X4 8 (by decide) (by decide +kernel) rfl dX4_made_35 ?_
      refine lv_aload_n hx hb dX4_made_38 rfl (lv_at hl 1 rfl) ?_
      refine m_get C w hW1.1 (index := 71) (T := TX4) (N := 16) rfl hi_X4 10 (by decide) (by decide +kernel) rfl dX4_made_39 ?_
      refine lv_iload_n hx hb dX4_made_42 rfl (lv_at hl 0 rfl) ?_
      refine m_iast C w hW1.a6 (sP S + 1) rfl (by omega) (by omega) dX4_made_43 (fun H locs w => ?_)
      have hW2 := hW1.set (nc' := nc) (fr' := fr) (cl' := cl) (go' := go) (bf' := bf) (cn' := cn) (S' := wPc S (sP S + 1) (va_up (sS S) (sP S + 1) (fmd v1 5))) 6 (by decide) rfl (by intro k hk hne; rcases (show k = 0 ∨ k = 1 ∨ k = 2 ∨ k = 3 ∨ k = 4 ∨ k = 5 ∨ k = 6 ∨ k = 7 ∨ k = 8 ∨ k = 9 ∨ k = 10 by omega) with rfl | rfl | rfl | rfl | rfl | rfl | rfl | rfl | rfl | rfl | rfl <;> first | rfl | exact absurd rfl hne) (congrArg (eI y 520) nI_up.symm)
      refine lv_aload_n hx hb dX4_made_44 rfl (lv_at hl 1 rfl) ?_
      refine m_get C w hW2.1 (index := 71) (T := TX4) (N := 16) rfl hi_X4 10 (by decide) (by decide +kernel) rfl dX4_made_45 ?_
      refine lv_i2l (v := lN (sP S + 1)) hx hb dX4_made_48 (nI_l (show sP S + 1 < 2 ^ 31 by omega)) ?_
      exact m_lret C w dX4_made_49 (by omega) (by omega) (by
        have hm : mkP S v1 = (lN (sP S + 1), wPc S (sP S + 1) (va_up (sS S) (sP S + 1) (fmd v1 5))) := by unfold mkP; rw [if_neg (show ¬ md5 v1 = 0 from n_19)]; rfl
        rw [hm]
        exact ⟨rfl, hW2, hQ⟩)
    · skip
      have n_19 : (fmd v1 5) = 0 := (nI_eq (by omega) (by omega)).mp (by first | exact c_19 | exact Classical.not_not.mp c_19)
      refine lv_lconst (v := 0) hx hb dX4_made_22 (by decide) ?_
      exact m_lret C w dX4_made_23 (by omega) (by omega) (by
        have hm : mkP S v1 = (0, S) := by unfold mkP; rw [if_pos (show md5 v1 = 0 from n_19)]
        rw [hm]
        exact ⟨rfl, hW, hQ⟩)
set_option maxRecDepth 100000 in
set_option maxHeartbeats 4000000 in
theorem r_told0 (l : Launch) (D : va_G) (y : mY) (S0 : Nat) (M F : mp) (m0 : Nat) (B : Nat → Nat) (fr : Nat → Nat) (nc : Nat) (cl go bf bq : Nat → Int64) (cn : Nat → Int32) (S : St) (hW : MW y m0 B fr nc cl go bf cn S M) (hQ : MR fr nc cl bq cn S) (c0 : Nat) (hI : Inv c0 S) (x : Int32) (hx6 : x < 0 → ∃ k, k < 6 ∧ -x = nI k) : ct l yX4_told0 wsX4_told0 0 0 0 0 D y S0 M F [.ref m0, .int x] (fun v M' => v = some (.int x) ∧ ∃ cn', MW y m0 B fr nc cl go bf cn' (tell S x) M' ∧ MR fr nc cl bq cn' (tell S x)) := by
  refine ct_of cX4_told0 2 (some .int) [(0, .ref m0), (1, .int x)] (by decide +kernel) rfl (Nat.le_of_ble_eq_true rfl) rfl ?_
  intro p e s m below meth c ls C hnm hl w
  have hx := C.1
  have hb := C.2.1
  have hi_X4 : ∀ w ∈ u_ws RX4 TX4 16, w ∈ wsX4_told0 := by decide +kernel
  refine lv_aload_n hx hb dX4_told0_0 rfl (lv_at hl 0 rfl) ?_
  refine m_get C w hW.1 (index := 46) (T := TX4) (N := 16) rfl hi_X4 15 (by decide) (by decide +kernel) rfl dX4_told0_1 ?_
  refine lv_iload_n hx hb dX4_told0_4 rfl (lv_at hl 1 rfl) ?_
  refine lv_if_ge (tgt := 14) hx hb dX4_told0_5 (by decide) (fun c_5 => ?_) (fun c_5 => ?_)
  · skip
    refine lv_iconst (v := 1) hx hb dX4_told0_14 (by decide) ?_
    have hK6 : tix x = 0 := by unfold tix; rw [if_neg (fun h => absurd c_5 (by simpa using h))]
    obtain ⟨kx, hk, hkx⟩ : ∃ kx, kx < 6 ∧ tix x = kx := ⟨0, by omega, hK6⟩
    refine m_topi (y := nI (kx + 1)) (by rw [← hkx, hK6]; rfl) ?_
    refine lv_dup2_11 hx hb dX4_told0_15 rfl rfl ?_
    refine m_iald C w hW.a10 (kx + 1) rfl (by omega) (by omega) dX4_told0_16 ?_
    refine lv_iconst (v := 1) hx hb dX4_told0_17 (by decide) ?_
    refine lv_iadd hx hb dX4_told0_18 ?_
    refine m_iast C w hW.a10 (kx + 1) rfl (by omega) (by omega) dX4_told0_19 (fun H locs w => ?_)
    have hW2 := hW.set (nc' := nc) (fr' := fr) (cl' := cl) (go' := go) (bf' := bf) (cn' := va_up cn (kx + 1) (cn (kx + 1) + 1)) (S' := tell S x) 10 (by decide) rfl (by intro k hk hne; rcases (show k = 0 ∨ k = 1 ∨ k = 2 ∨ k = 3 ∨ k = 4 ∨ k = 5 ∨ k = 6 ∨ k = 7 ∨ k = 8 ∨ k = 9 ∨ k = 10 by omega) with rfl | rfl | rfl | rfl | rfl | rfl | rfl | rfl | rfl | rfl | rfl <;> first | rfl | exact absurd rfl hne) rfl
    refine lv_iload_n hx hb dX4_told0_20 rfl (lv_at hl 1 rfl) ?_
    exact m_iret C w dX4_told0_21 (by omega) (by omega) (⟨rfl, _, hW2, hQ.1, hQ.2.1, hQ.2.2.1, hQ.2.2.2.1, hQ.2.2.2.2.1, hQ.2.2.2.2.2.1, fun j hj => by
      show va_up cn (kx + 1) (cn (kx + 1) + 1) (j + 1) = va_up (sT S) (tix x) (sT S (tix x) + 1) j
      rw [hkx]
      by_cases e : j = kx
      · rw [e, va_ups, va_ups, hQ.2.2.2.2.2.2 kx hk]
      · rw [va_upo e, va_upo (fun q => e (Nat.succ.inj q))]
        exact hQ.2.2.2.2.2.2 j hj⟩)
  · skip
    refine lv_iconst (v := 1) hx hb dX4_told0_8 (by decide) ?_
    refine lv_iload_n hx hb dX4_told0_9 rfl (lv_at hl 1 rfl) ?_
    refine lv_isub hx hb dX4_told0_10 ?_
    refine lv_goto (tgt := 15) hx hb dX4_told0_11 (by decide) ?_
    obtain ⟨kx, hk, ek⟩ := hx6 (by simpa using c_5)
    have hkx : tix x = kx := tix_neg (by simpa using c_5) hk ek
    refine m_topi (y := nI (kx + 1)) (by rw [← nI_1, ← ek, Int32.sub_eq_add_neg, Int32.add_comm]) ?_
    refine lv_dup2_11 hx hb dX4_told0_15 rfl rfl ?_
    refine m_iald C w hW.a10 (kx + 1) rfl (by omega) (by omega) dX4_told0_16 ?_
    refine lv_iconst (v := 1) hx hb dX4_told0_17 (by decide) ?_
    refine lv_iadd hx hb dX4_told0_18 ?_
    refine m_iast C w hW.a10 (kx + 1) rfl (by omega) (by omega) dX4_told0_19 (fun H locs w => ?_)
    have hW2 := hW.set (nc' := nc) (fr' := fr) (cl' := cl) (go' := go) (bf' := bf) (cn' := va_up cn (kx + 1) (cn (kx + 1) + 1)) (S' := tell S x) 10 (by decide) rfl (by intro k hk hne; rcases (show k = 0 ∨ k = 1 ∨ k = 2 ∨ k = 3 ∨ k = 4 ∨ k = 5 ∨ k = 6 ∨ k = 7 ∨ k = 8 ∨ k = 9 ∨ k = 10 by omega) with rfl | rfl | rfl | rfl | rfl | rfl | rfl | rfl | rfl | rfl | rfl <;> first | rfl | exact absurd rfl hne) rfl
    refine lv_iload_n hx hb dX4_told0_20 rfl (lv_at hl 1 rfl) ?_
    exact m_iret C w dX4_told0_21 (by omega) (by omega) (⟨rfl, _, hW2, hQ.1, hQ.2.1, hQ.2.2.1, hQ.2.2.2.1, hQ.2.2.2.2.1, hQ.2.2.2.2.2.1, fun j hj => by
      show va_up cn (kx + 1) (cn (kx + 1) + 1) (j + 1) = va_up (sT S) (tix x) (sT S (tix x) + 1) j
      rw [hkx]
      by_cases e : j = kx
      · rw [e, va_ups, va_ups, hQ.2.2.2.2.2.2 kx hk]
      · rw [va_upo e, va_upo (fun q => e (Nat.succ.inj q))]
        exact hQ.2.2.2.2.2.2 j hj⟩)
set_option maxRecDepth 100000 in
set_option maxHeartbeats 4000000 in
theorem r_unlike (l : Launch) (D : va_G) (y : mY) (S0 : Nat) (M F : mp) (m0 : Nat) (B : Nat → Nat) (fr : Nat → Nat) (nc : Nat) (cl go bf bq : Nat → Int64) (cn : Nat → Int32) (S : St) (hW : MW y m0 B fr nc cl go bf cn S M) (hQ : MR fr nc cl bq cn S) (c0 : Nat) (hI : Inv c0 S) (a b : Nat) (ha : a < 12) (hb2 : b < 12) : ct l yX4_unlike wsX4_unlike 2 42 0 0 D y S0 M F [.ref m0, .int (nI a), .int (nI b)] (fun v M' => v = some (.int (unl S a b)) ∧ M' = M) := by
  refine ct_of cX4_unlike 3 (some .int) [(0, .ref m0), (1, .int (nI a)), (2, .int (nI b))] (by decide +kernel) rfl (Nat.le_of_ble_eq_true rfl) rfl ?_
  intro p e s m below meth c ls C hnm hl w
  have hx := C.1
  have hb := C.2.1
  have hi_X4 : ∀ w ∈ u_ws RX4 TX4 16, w ∈ wsX4_unlike := by decide +kernel
  have hka := (hI.2.2.2.2.2.2.1 a ha).1
  have hkb := (hI.2.2.2.2.2.2.1 b hb2).1
  refine lv_aload_n hx hb dX4_unlike_0 rfl (lv_at hl 0 rfl) ?_
  refine m_get C w hW.1 (index := 7) (T := TX4) (N := 16) rfl hi_X4 0 (by decide) (by decide +kernel) rfl dX4_unlike_1 ?_
  refine lv_iload_n hx hb dX4_unlike_4 rfl (lv_at hl 1 rfl) ?_
  refine m_iald C w hW.a0 a rfl (by omega) (by omega) dX4_unlike_5 ?_
  refine lv_if_eq (tgt := 18) hx hb dX4_unlike_6 (by decide) (fun c_6 => ?_) (fun c_6 => ?_)
  · skip
    have n_6 : (sH S a) = 0 := (nI_eq (by omega) (by omega)).mp (by first | exact c_6 | exact Classical.not_not.mp c_6)
    refine lv_iconst (v := (-1)) hx hb dX4_unlike_18 (by decide) ?_
    exact m_iret C w dX4_unlike_19 (by omega) (by omega) (⟨by unfold unl; simp_all, rfl⟩)
  · skip
    have n_6 : ¬ (sH S a) = 0 := fun h => absurd ((nI_eq (by omega) (by omega)).mpr h) c_6
    refine lv_aload_n hx hb dX4_unlike_9 rfl (lv_at hl 0 rfl) ?_
    refine m_get C w hW.1 (index := 7) (T := TX4) (N := 16) rfl hi_X4 0 (by decide) (by decide +kernel) rfl dX4_unlike_10 ?_
    refine lv_iload_n hx hb dX4_unlike_13 rfl (lv_at hl 2 rfl) ?_
    refine m_iald C w hW.a0 b rfl (by omega) (by omega) dX4_unlike_14 ?_
    refine lv_if_ne (tgt := 20) hx hb dX4_unlike_15 (by decide) (fun c_15 => ?_) (fun c_15 => ?_)
    · skip
      have n_15 : ¬ (sH S b) = 0 := fun h => absurd ((nI_eq (by omega) (by omega)).mpr h) c_15
      refine lv_aload_n hx hb dX4_unlike_20 rfl (lv_at hl 0 rfl) ?_
      refine m_get C w hW.1 (index := 7) (T := TX4) (N := 16) rfl hi_X4 0 (by decide) (by decide +kernel) rfl dX4_unlike_21 ?_
      refine lv_iload_n hx hb dX4_unlike_24 rfl (lv_at hl 1 rfl) ?_
      refine m_iald C w hW.a0 a rfl (by omega) (by omega) dX4_unlike_25 ?_
      refine lv_iconst (v := 1) hx hb dX4_unlike_26 (by decide) ?_
      refine lv_icmp_eq (tgt := 40) hx hb dX4_unlike_27 (by decide) (fun c_27 => ?_) (fun c_27 => ?_)
      · skip
        have n_27 : (sH S a) = 1 := (nI_eq (by omega) (by omega)).mp (by first | exact c_27 | exact Classical.not_not.mp c_27)
        refine lv_bipush (v := (-2)) hx hb dX4_unlike_40 (by decide) ?_
        exact m_iret C w dX4_unlike_42 (by omega) (by omega) (⟨by unfold unl; simp_all, rfl⟩)
      · skip
        have n_27 : ¬ (sH S a) = 1 := fun h => absurd ((nI_eq (by omega) (by omega)).mpr h) c_27
        refine lv_aload_n hx hb dX4_unlike_30 rfl (lv_at hl 0 rfl) ?_
        refine m_get C w hW.1 (index := 7) (T := TX4) (N := 16) rfl hi_X4 0 (by decide) (by decide +kernel) rfl dX4_unlike_31 ?_
        refine lv_iload_n hx hb dX4_unlike_34 rfl (lv_at hl 2 rfl) ?_
        refine m_iald C w hW.a0 b rfl (by omega) (by omega) dX4_unlike_35 ?_
        refine lv_iconst (v := 1) hx hb dX4_unlike_36 (by decide) ?_
        refine lv_icmp_ne (tgt := 43) hx hb dX4_unlike_37 (by decide) (fun c_37 => ?_) (fun c_37 => ?_)
        · skip
          have n_37 : ¬ (sH S b) = 1 := fun h => absurd ((nI_eq (by omega) (by omega)).mpr h) c_37
          refine lv_aload_n hx hb dX4_unlike_43 rfl (lv_at hl 0 rfl) ?_
          refine m_get C w hW.1 (index := 7) (T := TX4) (N := 16) rfl hi_X4 0 (by decide) (by decide +kernel) rfl dX4_unlike_44 ?_
          refine lv_iload_n hx hb dX4_unlike_47 rfl (lv_at hl 1 rfl) ?_
          refine m_iald C w hW.a0 a rfl (by omega) (by omega) dX4_unlike_48 ?_
          refine m_callS C w hl.1 (As := [.int (nI (sH S a))]) (rest := []) (r_isN l D y S0 M F (sH S a) (by omega)) ggX4_unlike_X4_isNumbers rfl (by decide +kernel) (by decide +kernel) (by decide +kernel) (show (_ ≠ _ ∧ _ ≠ _ ∧ _ = some 1) by decide +kernel) ⟨Nat.le_of_ble_eq_true rfl, Nat.le_of_ble_eq_true rfl⟩ rfl (Nat.le_of_ble_eq_true rfl) dX4_unlike_49 ⟨Nat.le_of_ble_eq_true rfl, Nat.le_of_ble_eq_true rfl⟩ (fun v M1 H locs hq w => ?_)
          obtain ⟨rfl, hM1⟩ := hq
          rw [hM1] at w
          clear hM1 M1
          refine W.eq (g2 := F0 m 52 ls [.int (bI (isN (sH S a)))]) rfl ?_
          refine lv_if_ne (tgt := 67) hx hb dX4_unlike_52 (by decide) (fun c_52 => ?_) (fun c_52 => ?_)
          · skip
            have n_52 : (isN (sH S a)) = true := bI_t c_52
            refine lv_aload_n hx hb dX4_unlike_67 rfl (lv_at hl 0 rfl) ?_
            refine m_get C w hW.1 (index := 7) (T := TX4) (N := 16) rfl hi_X4 0 (by decide) (by decide +kernel) rfl dX4_unlike_68 ?_
            refine lv_iload_n hx hb dX4_unlike_71 rfl (lv_at hl 1 rfl) ?_
            refine m_iald C w hW.a0 a rfl (by omega) (by omega) dX4_unlike_72 ?_
            refine lv_aload_n hx hb dX4_unlike_73 rfl (lv_at hl 0 rfl) ?_
            refine m_get C w hW.1 (index := 7) (T := TX4) (N := 16) rfl hi_X4 0 (by decide) (by decide +kernel) rfl dX4_unlike_74 ?_
            refine lv_iload_n hx hb dX4_unlike_77 rfl (lv_at hl 2 rfl) ?_
            refine m_iald C w hW.a0 b rfl (by omega) (by omega) dX4_unlike_78 ?_
            refine lv_icmp_eq (tgt := 87) hx hb dX4_unlike_79 (by decide) (fun c_79 => ?_) (fun c_79 => ?_)
            · skip
              have n_79 : (sH S a) = (sH S b) := (nI_eq (by omega) (by omega)).mp (by first | exact c_79 | exact Classical.not_not.mp c_79)
              refine lv_iconst (v := 0) hx hb dX4_unlike_87 (by decide) ?_
              exact m_iret C w dX4_unlike_88 (by omega) (by omega) (⟨by unfold unl; simp_all, rfl⟩)
            · skip
              have n_79 : ¬ (sH S a) = (sH S b) := fun h => absurd ((nI_eq (by omega) (by omega)).mpr h) c_79
              refine lv_bipush (v := (-3)) hx hb dX4_unlike_82 (by decide) ?_
              refine lv_goto (tgt := 88) hx hb dX4_unlike_84 (by decide) ?_
              exact m_iret C w dX4_unlike_88 (by omega) (by omega) (⟨by unfold unl; simp_all, rfl⟩)
          · skip
            have n_52 : (isN (sH S a)) = false := bI_f c_52
            refine lv_aload_n hx hb dX4_unlike_55 rfl (lv_at hl 0 rfl) ?_
            refine m_get C w hW.1 (index := 7) (T := TX4) (N := 16) rfl hi_X4 0 (by decide) (by decide +kernel) rfl dX4_unlike_56 ?_
            refine lv_iload_n hx hb dX4_unlike_59 rfl (lv_at hl 2 rfl) ?_
            refine m_iald C w hW.a0 b rfl (by omega) (by omega) dX4_unlike_60 ?_
            refine m_callS C w hl.1 (As := [.int (nI (sH S b))]) (rest := []) (r_isN l D y S0 M F (sH S b) (by omega)) ggX4_unlike_X4_isNumbers rfl (by decide +kernel) (by decide +kernel) (by decide +kernel) (show (_ ≠ _ ∧ _ ≠ _ ∧ _ = some 1) by decide +kernel) ⟨Nat.le_of_ble_eq_true rfl, Nat.le_of_ble_eq_true rfl⟩ rfl (Nat.le_of_ble_eq_true rfl) dX4_unlike_61 ⟨Nat.le_of_ble_eq_true rfl, Nat.le_of_ble_eq_true rfl⟩ (fun v M1 H locs hq w => ?_)
            obtain ⟨rfl, hM1⟩ := hq
            rw [hM1] at w
            clear hM1 M1
            refine W.eq (g2 := F0 m 64 ls [.int (bI (isN (sH S b)))]) rfl ?_
            refine lv_if_eq (tgt := 87) hx hb dX4_unlike_64 (by decide) (fun c_64 => ?_) (fun c_64 => ?_)
            · skip
              have n_64 : (isN (sH S b)) = false := bI_f c_64
              refine lv_iconst (v := 0) hx hb dX4_unlike_87 (by decide) ?_
              exact m_iret C w dX4_unlike_88 (by omega) (by omega) (⟨by unfold unl; simp_all, rfl⟩)
            · skip
              have n_64 : (isN (sH S b)) = true := bI_t c_64
              refine lv_aload_n hx hb dX4_unlike_67 rfl (lv_at hl 0 rfl) ?_
              refine m_get C w hW.1 (index := 7) (T := TX4) (N := 16) rfl hi_X4 0 (by decide) (by decide +kernel) rfl dX4_unlike_68 ?_
              refine lv_iload_n hx hb dX4_unlike_71 rfl (lv_at hl 1 rfl) ?_
              refine m_iald C w hW.a0 a rfl (by omega) (by omega) dX4_unlike_72 ?_
              refine lv_aload_n hx hb dX4_unlike_73 rfl (lv_at hl 0 rfl) ?_
              refine m_get C w hW.1 (index := 7) (T := TX4) (N := 16) rfl hi_X4 0 (by decide) (by decide +kernel) rfl dX4_unlike_74 ?_
              refine lv_iload_n hx hb dX4_unlike_77 rfl (lv_at hl 2 rfl) ?_
              refine m_iald C w hW.a0 b rfl (by omega) (by omega) dX4_unlike_78 ?_
              refine lv_icmp_eq (tgt := 87) hx hb dX4_unlike_79 (by decide) (fun c_79 => ?_) (fun c_79 => ?_)
              · skip
                have n_79 : (sH S a) = (sH S b) := (nI_eq (by omega) (by omega)).mp (by first | exact c_79 | exact Classical.not_not.mp c_79)
                refine lv_iconst (v := 0) hx hb dX4_unlike_87 (by decide) ?_
                exact m_iret C w dX4_unlike_88 (by omega) (by omega) (⟨by unfold unl; simp_all, rfl⟩)
              · skip
                have n_79 : ¬ (sH S a) = (sH S b) := fun h => absurd ((nI_eq (by omega) (by omega)).mpr h) c_79
                refine lv_bipush (v := (-3)) hx hb dX4_unlike_82 (by decide) ?_
                refine lv_goto (tgt := 88) hx hb dX4_unlike_84 (by decide) ?_
                exact m_iret C w dX4_unlike_88 (by omega) (by omega) (⟨by unfold unl; simp_all, rfl⟩)
        · skip
          have n_37 : (sH S b) = 1 := (nI_eq (by omega) (by omega)).mp (by first | exact c_37 | exact Classical.not_not.mp c_37)
          refine lv_bipush (v := (-2)) hx hb dX4_unlike_40 (by decide) ?_
          exact m_iret C w dX4_unlike_42 (by omega) (by omega) (⟨by unfold unl; simp_all, rfl⟩)
    · skip
      have n_15 : (sH S b) = 0 := (nI_eq (by omega) (by omega)).mp (by first | exact c_15 | exact Classical.not_not.mp c_15)
      refine lv_iconst (v := (-1)) hx hb dX4_unlike_18 (by decide) ?_
      exact m_iret C w dX4_unlike_19 (by omega) (by omega) (⟨by unfold unl; simp_all, rfl⟩)
set_option maxRecDepth 100000 in
set_option maxHeartbeats 4000000 in
theorem r_keep (l : Launch) (D : va_G) (y : mY) (S0 : Nat) (M F : mp) (m0 : Nat) (B : Nat → Nat) (fr : Nat → Nat) (nc : Nat) (cl go bf bq : Nat → Int64) (cn : Nat → Int32) (S : St) (hW : MW y m0 B fr nc cl go bf cn S M) (hQ : MR fr nc cl bq cn S) (c0 : Nat) (hI : Inv c0 S) (t : Nat) (ht : t < 12) : ct l yX4_keep wsX4_keep 2 42 0 0 D y S0 M F [.ref m0, .int (nI t)] (fun v M' => v = none ∧ ∃ bf', MW y m0 B fr nc cl go bf' cn (kep S t) M' ∧ MR fr nc cl bf' cn (kep S t)) := by
  refine ct_of cX4_keep 3 none [(0, .ref m0), (1, .int (nI t))] (by decide +kernel) rfl (Nat.le_of_ble_eq_true rfl) rfl ?_
  intro p e s m below meth c ls C hnm hl w
  have hx := C.1
  have hb := C.2.1
  have hi_X4 : ∀ w ∈ u_ws RX4 TX4 16, w ∈ wsX4_keep := by decide +kernel
  have hk13 := (hI.2.2.2.2.2.2.1 t ht).1
  have hz64 := zT_le hI ht
  refine lv_aload_n hx hb dX4_keep_0 rfl (lv_at hl 0 rfl) ?_
  refine lv_aload_n hx hb dX4_keep_1 rfl (lv_at hl 0 rfl) ?_
  refine lv_iload_n hx hb dX4_keep_2 rfl (lv_at hl 1 rfl) ?_
  refine m_callV C w hl.1 (As := [.int (nI t)]) (rest := [.ref m0]) (r_isRow l D y S0 M F m0 B fr nc cl go bf bq cn S hW hQ c0 hI t ht) gX4_keep_X4_isRow rfl hW.1 (T := TX4) (N := 16) rfl (show (_ = _ ∧ _ ≠ _ ∧ _ ≠ _ ∧ _ = some 1) by decide +kernel) ⟨Nat.le_of_ble_eq_true rfl, Nat.le_of_ble_eq_true rfl⟩ rfl (Nat.le_of_ble_eq_true rfl) dX4_keep_3 ⟨Nat.le_of_ble_eq_true rfl, Nat.le_of_ble_eq_true rfl⟩ (fun v M1 H locs hq w => ?_)
  obtain ⟨rfl, hM1⟩ := hq
  rw [hM1] at w
  clear hM1 M1
  refine W.eq (g2 := F0 m 6 ls [.int (bI (decide (2 ≤ sH S t))), .ref m0]) rfl ?_
  refine lv_if_eq (tgt := 18) hx hb dX4_keep_6 (by decide) (fun c_6 => ?_) (fun c_6 => ?_)
  · skip
    have n_6 : (decide (2 ≤ sH S t)) = false := bI_f c_6
    refine lv_iconst (v := (-1)) hx hb dX4_keep_18 (by decide) ?_
    have h2 : ¬ 2 ≤ sH S t := of_decide_eq_false n_6
    refine m_put C w hW.1 (v := .int (-1)) (index := 42) (T := TX4) (N := 16) rfl hi_X4 tyX4 tyX4_ok nmX4 13 (by decide) (by decide +kernel) rfl (tyX4_ok 13 (by decide)) rfl rfl (Nat.le_of_ble_eq_true rfl) dX4_keep_19 (fun H locs w => ?_)
    obtain ⟨M1, e_M1⟩ : ∃ z, z = mu M m0 (eO 3 (mFl B nc (wBf S none (sF S)))) := ⟨_, rfl⟩
    have w : mS D S0 M1 F s H locs := by rw [e_M1]; exact w
    have hW1 : MW y m0 B fr nc cl go bf cn (wBf S none (sF S)) M1 := by rw [e_M1]; exact hW.fld (by intro k hk; rcases (show k = 0 ∨ k = 1 ∨ k = 2 ∨ k = 3 ∨ k = 4 ∨ k = 5 ∨ k = 6 ∨ k = 7 ∨ k = 8 ∨ k = 9 ∨ k = 10 by omega) with rfl | rfl | rfl | rfl | rfl | rfl | rfl | rfl | rfl | rfl | rfl <;> rfl)
    have hI1 := inv_kep hI ht
    rw [kep_no h2] at hI1
    have hQ1 : MR fr nc cl bf cn (wBf S none (sF S)) := ⟨hQ.1, hQ.2.1, hQ.2.2.1, hQ.2.2.2.1, hQ.2.2.2.2.1, fun r i h => (by cases h), hQ.2.2.2.2.2.2⟩
    refine lv_iconst (v := 0) hx hb dX4_keep_22 (by decide) ?_
    refine lv_istore_n (lv' := [(2, .int 0), (0, .ref m0), (1, .int (nI t))]) hx hb dX4_keep_23 rfl hl (by decide) rfl (fun ls hl => ?_)
    refine lv_iload_n hx hb dX4_keep_24 rfl (lv_at hl 0 rfl) ?_
    refine lv_aload_n hx hb dX4_keep_25 rfl (lv_at hl 1 rfl) ?_
    refine lv_iload_n hx hb dX4_keep_26 rfl (lv_at hl 2 rfl) ?_
    refine m_callV C w hl.1 (As := [.int (nI t)]) (rest := [.int 0]) (r_sizeOf l D y S0 M1 F m0 B fr nc cl go bf bf cn (wBf S none (sF S)) hW1 hQ1 c0 hI1 t ht) gX4_keep_X4_sizeOf rfl hW1.1 (T := TX4) (N := 16) rfl (show (_ = _ ∧ _ ≠ _ ∧ _ ≠ _ ∧ _ = some 1) by decide +kernel) ⟨Nat.le_of_ble_eq_true rfl, Nat.le_of_ble_eq_true rfl⟩ rfl (Nat.le_of_ble_eq_true rfl) dX4_keep_27 ⟨Nat.le_of_ble_eq_true rfl, Nat.le_of_ble_eq_true rfl⟩ (fun v M1 H locs hq w => ?_)
    obtain ⟨rfl, hM1⟩ := hq
    rw [hM1] at w
    clear hM1 M1
    refine W.eq (g2 := F0 m 30 ls [.int (nI (zT S t)), .int 0]) rfl ?_
    refine lv_icmp_ge (tgt := 51) hx hb dX4_keep_30 (by decide) (fun c_30 => ?_) (fun c_30 => ?_)
    · skip
      have n_30 : (zT S t) ≤ 0 := (nI_leI (by omega) (by omega)).mp c_30
      exact m_vret C w dX4_keep_51 (by omega) (by omega) (⟨rfl, bf, by rw [kep_no h2]; exact hW1, by rw [kep_no h2]; exact hQ1⟩)
    · skip
      have n_30 : ¬ (zT S t) ≤ 0 := fun h => absurd ((nI_leI (by omega) (by omega)).mpr h) c_30
      exact absurd (show zT S t = 0 by unfold zT; rw [if_neg h2]) (by omega)
  · skip
    have n_6 : (decide (2 ≤ sH S t)) = true := bI_t c_6
    have h2 : 2 ≤ sH S t := of_decide_eq_true n_6
    obtain ⟨eo, hr, -, hr5, hzT⟩ := rowI hI ht h2
    refine lv_aload_n hx hb dX4_keep_9 rfl (lv_at hl 0 rfl) ?_
    refine m_get C w hW.1 (index := 13) (T := TX4) (N := 16) rfl hi_X4 1 (by decide) (by decide +kernel) rfl dX4_keep_10 ?_
    refine lv_iload_n hx hb dX4_keep_13 rfl (lv_at hl 1 rfl) ?_
    refine m_iald C w hW.a1 t rfl (by omega) (by omega) dX4_keep_14 ?_
    refine m_topi (y := nI (rowT S t)) eo ?_
    refine lv_goto (tgt := 19) hx hb dX4_keep_15 (by decide) ?_
    refine m_put C w hW.1 (v := .int (nI (rowT S t))) (index := 42) (T := TX4) (N := 16) rfl hi_X4 tyX4 tyX4_ok nmX4 13 (by decide) (by decide +kernel) rfl (tyX4_ok 13 (by decide)) rfl rfl (Nat.le_of_ble_eq_true rfl) dX4_keep_19 (fun H locs w => ?_)
    obtain ⟨M1, e_M1⟩ : ∃ z, z = mu M m0 (eO 3 (mFl B nc (wBf S (some (rowT S t)) (sC S (rowT S t))))) := ⟨_, rfl⟩
    have w : mS D S0 M1 F s H locs := by rw [e_M1]; exact w
    have hW1 : MW y m0 B fr nc cl go bf cn (wBf S (some (rowT S t)) (sC S (rowT S t))) M1 := by rw [e_M1]; exact hW.fld (by intro k hk; rcases (show k = 0 ∨ k = 1 ∨ k = 2 ∨ k = 3 ∨ k = 4 ∨ k = 5 ∨ k = 6 ∨ k = 7 ∨ k = 8 ∨ k = 9 ∨ k = 10 by omega) with rfl | rfl | rfl | rfl | rfl | rfl | rfl | rfl | rfl | rfl | rfl <;> rfl)
    have hI1 := inv_kep hI ht
    rw [kep_row h2] at hI1
    have hQ1 : MR fr nc cl (sC S (rowT S t)) cn (wBf S (some (rowT S t)) (sC S (rowT S t))) := ⟨hQ.1, hQ.2.1, hQ.2.2.1, hQ.2.2.2.1, hQ.2.2.2.2.1, fun r i h _ => rfl, hQ.2.2.2.2.2.2⟩
    refine lv_iconst (v := 0) hx hb dX4_keep_22 (by decide) ?_
    refine lv_istore_n (lv' := [(2, .int 0), (0, .ref m0), (1, .int (nI t))]) hx hb dX4_keep_23 rfl hl (by decide) rfl (fun ls hl => ?_)
    have lp : ∀ (kf : Nat) (i : Nat) (b2 : Nat → Int64) (M2 : mp), (i ≤ zT S t) → (MW y m0 B fr nc cl go b2 cn (wBf S (some (rowT S t)) (sC S (rowT S t))) M2) → (∀ x, x < i → b2 x = sC S (rowT S t) x) →  ∀ (H : Heap) (locs : List Loc) (ls : Array Slot), zT S t - i = kf → mS D S0 M2 F s H locs → lv_has ls 3 [(2, .int (nI i)), (1, .int (nI t)), (0, .ref m0)] → W p l e { frames := 2, cells := 0, slots := 0, locals := 42 } s m ([.ref m0, .int (nI t)] : List Value).toArray below meth c H locs 0 0 (MQ below (mQ D S0 F (fun v M' => v = none ∧ ∃ bf', MW y m0 B fr nc cl go bf' cn (kep S t) M' ∧ MR fr nc cl bf' cn (kep S t))) ([.ref m0, .int (nI t)] : List Value).toArray s 0 0 (fun q => S0 ≤ q)) (F0 m 24 ls []) := by
      clear w hl
      intro kf
      induction kf using Nat.strongRecOn with
      | _ kf ih_lp =>
        intro i b2 M2 hi hW2 hd H locs ls hkf w hl
        refine lv_iload_n hx hb dX4_keep_24 rfl (lv_at hl 0 rfl) ?_
        refine lv_aload_n hx hb dX4_keep_25 rfl (lv_at hl 2 rfl) ?_
        refine lv_iload_n hx hb dX4_keep_26 rfl (lv_at hl 1 rfl) ?_
        refine m_callV C w hl.1 (As := [.int (nI t)]) (rest := [.int (nI i)]) (r_sizeOf l D y S0 M2 F m0 B fr nc cl go b2 (sC S (rowT S t)) cn (wBf S (some (rowT S t)) (sC S (rowT S t))) hW2 hQ1 c0 hI1 t ht) gX4_keep_X4_sizeOf rfl hW2.1 (T := TX4) (N := 16) rfl (show (_ = _ ∧ _ ≠ _ ∧ _ ≠ _ ∧ _ = some 1) by decide +kernel) ⟨Nat.le_of_ble_eq_true rfl, Nat.le_of_ble_eq_true rfl⟩ rfl (Nat.le_of_ble_eq_true rfl) dX4_keep_27 ⟨Nat.le_of_ble_eq_true rfl, Nat.le_of_ble_eq_true rfl⟩ (fun v M1 H locs hq w => ?_)
        obtain ⟨rfl, hM1⟩ := hq
        rw [hM1] at w
        clear hM1 M1
        refine W.eq (g2 := F0 m 30 ls [.int (nI (zT S t)), .int (nI i)]) rfl ?_
        refine lv_icmp_ge (tgt := 51) hx hb dX4_keep_30 (by decide) (fun c_30 => ?_) (fun c_30 => ?_)
        · skip
          have n_30 : (zT S t) ≤ i := (nI_leI (by omega) (by omega)).mp c_30
          exact m_vret C w dX4_keep_51 (by omega) (by omega) (⟨rfl, b2, by rw [kep_row h2]; exact hW2, by rw [kep_row h2]; exact ⟨hQ1.1, hQ1.2.1, hQ1.2.2.1, hQ1.2.2.2.1, hQ1.2.2.2.2.1, fun r x hr2 hx => by
              cases hr2
              have hx : x < sZ S (rowT S t) := hx
              exact hd x (by omega), hQ1.2.2.2.2.2.2⟩⟩)
        · skip
          have n_30 : ¬ (zT S t) ≤ i := fun h => absurd ((nI_leI (by omega) (by omega)).mpr h) c_30
          refine lv_aload_n hx hb dX4_keep_33 rfl (lv_at hl 2 rfl) ?_
          refine m_get C w hW2.1 (index := 39) (T := TX4) (N := 16) rfl hi_X4 12 (by decide) (by decide +kernel) rfl dX4_keep_34 ?_
          refine lv_iload_n hx hb dX4_keep_37 rfl (lv_at hl 0 rfl) ?_
          refine lv_aload_n hx hb dX4_keep_38 rfl (lv_at hl 2 rfl) ?_
          refine lv_iload_n hx hb dX4_keep_39 rfl (lv_at hl 1 rfl) ?_
          refine lv_iload_n hx hb dX4_keep_40 rfl (lv_at hl 0 rfl) ?_
          refine m_callV C w hl.1 (As := [.int (nI t), .int (nI i)]) (rest := [.int (nI i), .ref (B 9)]) (r_get l D y S0 M2 F m0 B fr nc cl go b2 (sC S (rowT S t)) cn (wBf S (some (rowT S t)) (sC S (rowT S t))) hW2 hQ1 c0 hI1 t ht h2 i (show i < zT S t by omega)) gX4_keep_X4_get rfl hW2.1 (T := TX4) (N := 16) rfl (show (_ = _ ∧ _ ≠ _ ∧ _ ≠ _ ∧ _ = some 2) by decide +kernel) ⟨Nat.le_of_ble_eq_true rfl, Nat.le_of_ble_eq_true rfl⟩ rfl (Nat.le_of_ble_eq_true rfl) dX4_keep_41 ⟨Nat.le_of_ble_eq_true rfl, Nat.le_of_ble_eq_true rfl⟩ (fun v M1 H locs hq w => ?_)
          obtain ⟨rfl, hM1⟩ := hq
          rw [hM1] at w
          clear hM1 M1
          refine W.eq (g2 := F0 m 44 ls [.long (sC S (rowT S t) i), .int (nI i), .ref (B 9)]) rfl ?_
          have hz64 := zT_le hI ht
          refine m_last C w hW2.a9 i rfl (by omega) (by omega) dX4_keep_44 (fun H locs w => ?_)
          have hW3 := hW2.set (nc' := nc) (fr' := fr) (cl' := cl) (go' := go) (bf' := va_up b2 i (sC S (rowT S t) i)) (cn' := cn) (S' := (wBf S (some (rowT S t)) (sC S (rowT S t)))) 9 (by decide) rfl (by intro k hk hne; rcases (show k = 0 ∨ k = 1 ∨ k = 2 ∨ k = 3 ∨ k = 4 ∨ k = 5 ∨ k = 6 ∨ k = 7 ∨ k = 8 ∨ k = 9 ∨ k = 10 by omega) with rfl | rfl | rfl | rfl | rfl | rfl | rfl | rfl | rfl | rfl | rfl <;> first | rfl | exact absurd rfl hne) rfl
          refine lv_iinc (v := nI (i + 1)) (lv' := [(2, .int (nI (i + 1))), (1, .int (nI t)), (0, .ref m0)]) hx hb dX4_keep_45 hl (k := 0) rfl (by first | exact nI_1 _ | exact nI_add _ _ | rfl) (by decide) rfl (fun ls hl => ?_)
          refine lv_goto (tgt := 24) hx hb dX4_keep_48 (by decide) ?_
          exact ih_lp (zT S t - (i + 1)) (by omega) (i + 1) _ _ (by omega) hW3 (fun x hx => by
              by_cases e : x = i
              · rw [e, va_ups]
              · rw [va_upo e]; exact hd x (by omega)) _ _ ls rfl w (lv_sub hl [0, 1, 2] rfl)
    exact lp _ 0 bf M1 (by omega) hW1 (fun x hx => by omega) _ _ ls rfl w (lv_sub hl [0, 2, 1] rfl)
