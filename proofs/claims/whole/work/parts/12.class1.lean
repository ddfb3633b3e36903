theorem ct_ofF {l : Launch} {yn : MethodName} {ws ws' : List Cond} {fr lo mc ms : Nat} {D : va_G} {y : mY} {S0 : Nat} {M F : mp} {av : List Value} {post : Option Value → mp → Prop} (cc : ByteArray) (maxL : Nat) (ret : Option FieldType) (lv : List (Nat × Value))
    (hy : plainFor yn = true) (hw : ws = Cond.code yn cc maxL ret :: ws') (hlen : (lg_sl av).length ≤ maxL) (hlv : lv_args 0 av = lv)
    (body : ∀ (p : Program) (e : Env) (s : State) (m : MethodId) (below : List Frame) (meth : Method) (c : Code) (ls : Array Slot), mC p s m av.toArray meth c cc maxL yn.cls ws ret D y S0 → meth.name = yn.name → lv_has ls maxL lv → mS D S0 M F s s.heap [] →
      W p l e { frames := fr, cells := mc, slots := ms, locals := lo } s m av.toArray below meth c s.heap [] 0 0 (MQ below (mQ D S0 F post) av.toArray s mc ms (fun q => S0 ≤ q)) (F0 m 0 ls [])) :
    ct l yn ws fr lo mc ms D y S0 M F av post := by
  refine va_MetF (cc := cc) (maxL := maxL) (ret := ret) hy hw ?_
  intro p e s m args below meth c s₁ B hml hv
  obtain ⟨rfl, hm, hT, hsz⟩ := hv
  have hl := lv_entry av (n := maxL) hlen
  rw [lg_entry_eq]
  rw [hlv] at hl
  exact body p e s m below meth c _ ⟨B.exec, B.bytes, hml, findClass_of_methodNamed B.named, atoms_spec (ws := ws) B.pre, B.returns, B.notSynchronized, hT, hsz⟩ (name_of_methodNamed B.named B.method).1 hl ⟨hm, va_S.rf⟩
theorem xor_neg (a : Int32) {m : Nat} (hm : m < 2 ^ 31) : (a ^^^ nI m) < 0 ↔ a < 0 := by
  have key : ∀ x : Int32, x < 0 ↔ x.toBitVec.msb = true := by
    intro x
    rw [Int32.lt_iff_toInt_lt, BitVec.msb_eq_toInt, decide_eq_true_iff]
    exact Iff.rfl
  rw [key, key, Int32.toBitVec_xor, BitVec.msb_xor]
  have h0 : (nI m).toBitVec.msb = false := by
    have := nI_pos hm
    rw [key] at this
    simpa using this
  rw [h0]
  simp
theorem rem_nn {a : Int32} {m : Nat} (hm : m < 2 ^ 31) (h : ¬ a < 0) : ¬ (a - a / nI m * nI m) < 0 := by
  rw [Int32.lt_iff_toInt_lt, rem_toInt, nI_toInt hm]
  rw [Int32.lt_iff_toInt_lt] at h
  have hz : (0 : Int32).toInt = 0 := rfl
  have := Int.tmod_nonneg (m : Int) (show 0 ≤ a.toInt by omega)
  omega
theorem rem_ng {a : Int32} {m : Nat} (hm : m < 2 ^ 31) (h : a < 0) (hr : ¬ (a - a / nI m * nI m) = 0) : (a - a / nI m * nI m) < 0 := by
  have h1 : (a - a / nI m * nI m).toInt = a.toInt.tmod m := by rw [rem_toInt, nI_toInt hm]
  have hz : (0 : Int32).toInt = 0 := rfl
  have hne : (a - a / nI m * nI m).toInt ≠ 0 := fun e => hr (Int32.toInt_inj.mp (e.trans hz.symm))
  rw [Int32.lt_iff_toInt_lt] at h ⊢
  have := Int.neg_tmod (a := -a.toInt) (b := (m : Int))
  have h3 := Int.tmod_nonneg (m : Int) (show 0 ≤ -a.toInt by omega)
  rw [Int.neg_neg] at this
  omega
/-- floorMod by a positive number -/
def fmd (a : Int32) (m : Nat) : Nat := (a.toInt % (m : Int)).toNat
theorem fmd_lt (a : Int32) {m : Nat} (h : 0 < m) : fmd a m < m := by
  unfold fmd
  have h1 := Int.emod_nonneg a.toInt (show (m : Int) ≠ 0 by omega)
  have h2 := Int.emod_lt_of_pos a.toInt (show (0 : Int) < m by omega)
  omega
theorem eq_nI {x : Int32} {n : Nat} (hn : n < 2 ^ 31) (h : x.toInt = n) : x = nI n := Int32.toInt_inj.mp (h.trans (nI_toInt hn).symm)
theorem fmd_pos (a : Int32) {m : Nat} (h0 : 0 < m) (hm : m < 2 ^ 31) (h : ¬ (a - a / nI m * nI m) < 0) : a - a / nI m * nI m = nI (fmd a m) := by
  refine eq_nI (by have := fmd_lt a h0; omega) ?_
  have h1 : (a - a / nI m * nI m).toInt = a.toInt.tmod m := by rw [rem_toInt, nI_toInt hm]
  rw [Int32.lt_iff_toInt_lt, h1] at h
  have hz : (0 : Int32).toInt = 0 := rfl
  have hem := Int.tmod_eq_emod (a := a.toInt) (b := (m : Int))
  have h3 := fmd_lt a h0
  unfold fmd at h3 ⊢
  have h4 := Int.emod_nonneg a.toInt (show (m : Int) ≠ 0 by omega)
  have h5 := Int.emod_lt_of_pos a.toInt (show (0 : Int) < m by omega)
  rw [h1, Int.toNat_of_nonneg h4]
  split at hem <;> omega
theorem fmd_neg (a : Int32) {m : Nat} (h0 : 0 < m) (hm : m < 2 ^ 31) (h : (a - a / nI m * nI m) < 0) : (a - a / nI m * nI m) + nI m = nI (fmd a m) := by
  refine eq_nI (by have := fmd_lt a h0; omega) ?_
  have h1 : (a - a / nI m * nI m).toInt = a.toInt.tmod m := by rw [rem_toInt, nI_toInt hm]
  rw [Int32.lt_iff_toInt_lt, h1] at h
  have hz : (0 : Int32).toInt = 0 := rfl
  have hem := Int.tmod_eq_emod (a := a.toInt) (b := (m : Int))
  have h3 := fmd_lt a h0
  unfold fmd at h3 ⊢
  have h4 := Int.emod_nonneg a.toInt (show (m : Int) ≠ 0 by omega)
  have h5 := Int.emod_lt_of_pos a.toInt (show (0 : Int) < m by omega)
  rw [Int32.toInt_add, h1, nI_toInt hm, Int.toNat_of_nonneg h4]
  have : (a.toInt.tmod m + m) = a.toInt % m := by split at hem <;> omega
  rw [this, Int.bmod_eq_of_le] <;> omega
def unlK (a b : Nat) : Int32 := if a = 0 ∨ b = 0 then -1 else if a = 1 ∨ b = 1 then -2 else if (isN a || isN b) = true ∧ a ≠ b then -3 else 0
theorem fR_0 {k : Nat} : fR k = 0 ↔ 2 ≤ k := by
  unfold fR
  by_cases h0 : k = 0
  · rw [if_pos h0]; exact ⟨fun h => absurd h (by decide), fun h => by omega⟩
  · rw [if_neg h0]
    by_cases h1 : k = 1
    · rw [if_pos h1]; exact ⟨fun h => absurd h (by decide), fun h => by omega⟩
    · rw [if_neg h1]; exact ⟨fun _ => by omega, fun _ => rfl⟩
/-- a tray's cell -/
theorem CW1.tray {c : Nat} {y : mY} {h0 : Nat} {A : Ad} {tr : Nat → Nat} {S : St} {M : mp} (h : CW1 y h0 A tr S M) (hI : Inv c S) {t : Nat} (ht : t < 12) : ∃ (tk : Int32) (na ta : Nat), M (tr t) = some (eO 0 (hF (sH S t) (zT S t) tk na ta)) ∧ (sH S t = 1 → tk = sO S t) ∧ (2 ≤ sH S t → rowT S t < sN S ∧ sO S t = nI (rowT S t) ∧ sK S (rowT S t) = sH S t ∧ tr t = xr A (rowT S t) ∧ na = xn A (rowT S t + 1) ∧ ta = xt A (rowT S t + 1)) := by
  obtain ⟨h1, ⟨a2, b2, h2⟩, h3, h4, h5, h6, h7, h8⟩ := h
  unfold zT
  rcases h8 t ht with ⟨q, e⟩ | ⟨q, a, b, e⟩ | ⟨q, r, hr, e1, e2, e3⟩
  · refine ⟨0, a2, b2, ?_, fun h => by omega, fun h => by omega⟩
    rw [q, e, if_neg (by omega)]
    exact h2
  · refine ⟨sO S t, a, b, ?_, fun _ => rfl, fun h => by omega⟩
    rw [q, if_neg (by omega)]
    exact e
  · have er : rowT S t = r := by
      unfold rowT
      rw [e1]
      exact cN_nI (by have := hI.1; have := hI.2.2.1; omega)
    rw [if_pos q, er]
    refine ⟨0, _, _, ?_, fun h => by omega, fun _ => ⟨hr, e1, e2, e3, rfl, rfl⟩⟩
    rw [e3, ← e2]
    exact h6 r hr
theorem zT_le {c : Nat} {S : St} (hI : Inv c S) {t : Nat} (ht : t < 12) : zT S t ≤ 64 := by
  unfold zT
  split
  · rename_i h
    obtain ⟨r, hr, e, -⟩ := (hI.2.2.2.2.2.2.1 t ht).2 h
    have er : rowT S t = r := by
      unfold rowT
      rw [e]
      exact cN_nI (by have := hI.1; have := hI.2.2.1; omega)
    rw [er]
    exact (hI.2.2.2.1 r hr).2.2.1
  · omega
/-- the bench's own cell is written -/
theorem CW.ben {y : mY} {h0 : Nat} {A : Ad} {tr : Nat → Nat} {f : Nat → Nat → Int64} {g : Nat → Nat → Option Nat} {S : St} {M : mp} (h : CW y h0 A tr f g S M) (S' : St) (hs : sH S' = sH S ∧ sO S' = sO S ∧ sN S' = sN S ∧ sK S' = sK S ∧ sZ S' = sZ S ∧ sP S' = sP S ∧ sS S' = sS S ∧ sL S' = sL S ∧ sT S' = sT S) : CW y h0 A tr f g S' (mu M h0 (eO 2 (bF A S'))) := by
  obtain ⟨⟨h1, ⟨a2, b2, h2⟩, h3, h4, h5, h6, h7, h8⟩, ⟨k1, k2, k3⟩, h9⟩ := h
  obtain ⟨a, b, n, k, z, c, p, so, po, br, bf, fl, t⟩ := S
  obtain ⟨a', b', n', k', z', c', p', so', po', br', bf', fl', t'⟩ := S'
  obtain ⟨rfl, rfl, rfl, rfl, rfl, rfl, rfl, rfl, rfl⟩ := hs
  refine ⟨⟨mu_s, ⟨a2, b2, mu_k (m_ne h2 h1 (by simp)) h2⟩, mu_k (m_ne h3 h1 (by simp)) h3, mu_k (m_ne h4 h1 (by simp)) h4, mu_k (m_ne h5 h1 (by simp)) h5, fun r hr => mu_k (m_ne (h6 r hr) h1 (by simp)) (h6 r hr), fun q q1 q2 => mu_k (m_ne (h7 q q1 q2) h1 (by simp)) (h7 q q1 q2), fun t ht => ?_⟩, ⟨fun j hj => mu_k (m_ne (k1 j hj) h1 (by simp)) (k1 j hj), fun j hj => mu_k (m_ne (k2 j hj) h1 (by simp)) (k2 j hj), k3⟩, h9⟩
  rcases h8 t ht with q | ⟨q, a3, b3, q3⟩ | q
  · exact Or.inl q
  · exact Or.inr (Or.inl ⟨q, a3, b3, mu_k (m_ne q3 h1 (by simp)) q3⟩)
  · exact Or.inr (Or.inr q)
theorem CW.rc {y : mY} {h0 : Nat} {A : Ad} {tr : Nat → Nat} {f : Nat → Nat → Int64} {g : Nat → Nat → Option Nat} {S : St} {M : mp} (h : CW y h0 A tr f g S M) (c : Nat → Nat → Int64) : CW y h0 A tr f g (wRC S c) M := h
set_option maxRecDepth 100000 in
set_option maxHeartbeats 4000000 in
theorem c_isTray (l : Launch) (D : va_G) (y : mY) (S0 : Nat) (M F : mp) (t : Int32) : ct l yX3_isTray wsX3_isTray 0 0 0 0 D y S0 M F [.int t] (fun v M' => v = some (.int (bI (inP t 12))) ∧ M' = M) := by
  refine ct_of cX3_isTray 1 (some .boolean) [(0, .int t)] (by decide +kernel) rfl (Nat.le_of_ble_eq_true rfl) rfl ?_
  intro p e s m below meth c ls C hnm hl w
  have hx := C.1
  have hb := C.2.1
  refine lv_iload_n hx hb dX3_isTray_0 rfl (lv_at hl 0 rfl) ?_
  refine lv_if_lt (tgt := 14) hx hb dX3_isTray_1 (by decide) (fun c_1 => ?_) (fun c_1 => ?_)
  · skip
    refine lv_iconst (v := 0) hx hb dX3_isTray_14 (by decide) ?_
    exact m_zret C w dX3_isTray_15 (by omega) (by omega) (by first | exact Or.inl rfl | exact Or.inr rfl) (⟨by unfold inP; simp_all [bI, show (12 : Int32) = nI 12 from rfl], rfl⟩)
  · skip
    refine lv_iload_n hx hb dX3_isTray_4 rfl (lv_at hl 0 rfl) ?_
    refine lv_bipush (v := 12) hx hb dX3_isTray_5 (by decide) ?_
    refine lv_icmp_ge (tgt := 14) hx hb dX3_isTray_7 (by decide) (fun c_7 => ?_) (fun c_7 => ?_)
    · skip
      refine lv_iconst (v := 0) hx hb dX3_isTray_14 (by decide) ?_
      exact m_zret C w dX3_isTray_15 (by omega) (by omega) (by first | exact Or.inl rfl | exact Or.inr rfl) (⟨by unfold inP; simp_all [bI, show (12 : Int32) = nI 12 from rfl], rfl⟩)
    · skip
      refine lv_iconst (v := 1) hx hb dX3_isTray_10 (by decide) ?_
      refine lv_goto (tgt := 15) hx hb dX3_isTray_11 (by decide) ?_
      exact m_zret C w dX3_isTray_15 (by omega) (by omega) (by first | exact Or.inl rfl | exact Or.inr rfl) (⟨by unfold inP; simp_all [bI, show (12 : Int32) = nI 12 from rfl], rfl⟩)
set_option maxRecDepth 100000 in
set_option maxHeartbeats 4000000 in
/-- refusalOfPair -/
theorem c_pair (l : Launch) (D : va_G) (y : mY) (S0 : Nat) (M F : mp) (h k n : Nat) (t : Int32) (na ta : Nat) (hh : M h = some (eO 0 (hF k n t na ta))) (hk : k < 14) (hn : n ≤ 64) (h2 k2 n2 : Nat) (t2 : Int32) (na2 ta2 : Nat) (hh2 : M h2 = some (eO 0 (hF k2 n2 t2 na2 ta2))) (hk2 : k2 < 14) (hn2 : n2 ≤ 64) : ct l yX3_refusalOfPair wsX3_refusalOfPair 1 20 0 0 D y S0 M F [.ref h, .ref h2] (fun v M' => v = some (.int (unlK k k2)) ∧ M' = M) := by
  refine ct_of cX3_refusalOfPair 3 (some .int) [(0, .ref h), (1, .ref h2)] (by decide +kernel) rfl (Nat.le_of_ble_eq_true rfl) rfl ?_
  intro p e s m below meth c ls C hnm hl w
  have hx := C.1
  have hb := C.2.1
  have hi_X0 : ∀ w ∈ u_ws RX0 TX0 5, w ∈ wsX3_refusalOfPair := by decide +kernel
  refine lv_aload_n hx hb dX3_refusalOfPair_0 rfl (lv_at hl 0 rfl) ?_
  refine m_getN C w hh (index := 43) (host := "BeadBench") (T := TX0) (N := 5) rfl hi_X0 0 (by decide) (by decide +kernel) rfl dX3_refusalOfPair_1 ?_
  refine lv_if_eq (tgt := 14) hx hb dX3_refusalOfPair_4 (by decide) (fun c_4 => ?_) (fun c_4 => ?_)
  · skip
    have n_4 : k = 0 := (nI_eq (by omega) (by omega)).mp (by first | exact c_4 | exact Classical.not_not.mp c_4)
    refine lv_iconst (v := (-1)) hx hb dX3_refusalOfPair_14 (by decide) ?_
    exact m_iret C w dX3_refusalOfPair_15 (by omega) (by omega) (⟨by unfold unlK; simp_all, rfl⟩)
  · skip
    have n_4 : ¬ k = 0 := fun h => absurd ((nI_eq (by omega) (by omega)).mpr h) c_4
    refine lv_aload_n hx hb dX3_refusalOfPair_7 rfl (lv_at hl 1 rfl) ?_
    refine m_getN C w hh2 (index := 43) (host := "BeadBench") (T := TX0) (N := 5) rfl hi_X0 0 (by decide) (by decide +kernel) rfl dX3_refusalOfPair_8 ?_
    refine lv_if_ne (tgt := 16) hx hb dX3_refusalOfPair_11 (by decide) (fun c_11 => ?_) (fun c_11 => ?_)
    · skip
      have n_11 : ¬ k2 = 0 := fun h => absurd ((nI_eq (by omega) (by omega)).mpr h) c_11
      refine lv_aload_n hx hb dX3_refusalOfPair_16 rfl (lv_at hl 0 rfl) ?_
      refine m_getN C w hh (index := 43) (host := "BeadBench") (T := TX0) (N := 5) rfl hi_X0 0 (by decide) (by decide +kernel) rfl dX3_refusalOfPair_17 ?_
      refine lv_iconst (v := 1) hx hb dX3_refusalOfPair_20 (by decide) ?_
      refine lv_icmp_eq (tgt := 32) hx hb dX3_refusalOfPair_21 (by decide) (fun c_21 => ?_) (fun c_21 => ?_)
      · skip
        have n_21 : k = 1 := (nI_eq (by omega) (by omega)).mp (by first | exact c_21 | exact Classical.not_not.mp c_21)
        refine lv_bipush (v := (-2)) hx hb dX3_refusalOfPair_32 (by decide) ?_
        exact m_iret C w dX3_refusalOfPair_34 (by omega) (by omega) (⟨by unfold unlK; simp_all, rfl⟩)
      · skip
        have n_21 : ¬ k = 1 := fun h => absurd ((nI_eq (by omega) (by omega)).mpr h) c_21
        refine lv_aload_n hx hb dX3_refusalOfPair_24 rfl (lv_at hl 1 rfl) ?_
        refine m_getN C w hh2 (index := 43) (host := "BeadBench") (T := TX0) (N := 5) rfl hi_X0 0 (by decide) (by decide +kernel) rfl dX3_refusalOfPair_25 ?_
        refine lv_iconst (v := 1) hx hb dX3_refusalOfPair_28 (by decide) ?_
        refine lv_icmp_ne (tgt := 35) hx hb dX3_refusalOfPair_29 (by decide) (fun c_29 => ?_) (fun c_29 => ?_)
        · skip
          have n_29 : ¬ k2 = 1 := fun h => absurd ((nI_eq (by omega) (by omega)).mpr h) c_29
          refine lv_aload_n hx hb dX3_refusalOfPair_35 rfl (lv_at hl 0 rfl) ?_
          refine m_callV C w hl.1 (As := []) (rest := []) (c_Hold_isN l D y S0 M F h k n t na ta hh hk hn) gX3_refusalOfPair_X0_isOfNumbers rfl hh (T := TX0) (N := 5) rfl (by decide +kernel) ⟨Nat.le_of_ble_eq_true rfl, Nat.le_of_ble_eq_true rfl⟩ rfl (by decide) dX3_refusalOfPair_36 ⟨by omega, by omega⟩ (fun v M1 H locs hq w => ?_)
          obtain ⟨rfl, hM1⟩ := hq
          rw [hM1] at w
          clear hM1 M1
          refine W.eq (g2 := F0 m 39 ls [.int (bI (isN k))]) rfl ?_
          refine lv_if_ne (tgt := 49) hx hb dX3_refusalOfPair_39 (by decide) (fun c_39 => ?_) (fun c_39 => ?_)
          · skip
            have n_39 : (isN k) = true := bI_t c_39
            refine lv_iconst (v := 1) hx hb dX3_refusalOfPair_49 (by decide) ?_
            refine lv_goto (tgt := 54) hx hb dX3_refusalOfPair_50 (by decide) ?_
            refine lv_istore_n (lv' := [(2, .int 1), (0, .ref h), (1, .ref h2)]) hx hb dX3_refusalOfPair_54 rfl hl (by decide) rfl (fun ls hl => ?_)
            refine lv_iload_n hx hb dX3_refusalOfPair_55 rfl (lv_at hl 0 rfl) ?_
            refine lv_if_eq (tgt := 75) hx hb dX3_refusalOfPair_56 (by decide) (fun h => absurd h (by decide)) (fun _ => ?_)
            refine lv_aload_n hx hb dX3_refusalOfPair_59 rfl (lv_at hl 1 rfl) ?_
            refine m_getN C w hh (index := 43) (host := "BeadBench") (T := TX0) (N := 5) rfl hi_X0 0 (by decide) (by decide +kernel) rfl dX3_refusalOfPair_60 ?_
            refine lv_aload_n hx hb dX3_refusalOfPair_63 rfl (lv_at hl 2 rfl) ?_
            refine m_getN C w hh2 (index := 43) (host := "BeadBench") (T := TX0) (N := 5) rfl hi_X0 0 (by decide) (by decide +kernel) rfl dX3_refusalOfPair_64 ?_
            refine lv_icmp_eq (tgt := 75) hx hb dX3_refusalOfPair_67 (by decide) (fun c_67 => ?_) (fun c_67 => ?_)
            · skip
              have n_67 : k = k2 := (nI_eq (by omega) (by omega)).mp (by first | exact c_67 | exact Classical.not_not.mp c_67)
              refine lv_iconst (v := 0) hx hb dX3_refusalOfPair_75 (by decide) ?_
              exact m_iret C w dX3_refusalOfPair_76 (by omega) (by omega) (⟨by unfold unlK; simp_all, rfl⟩)
            · skip
              have n_67 : ¬ k = k2 := fun h => absurd ((nI_eq (by omega) (by omega)).mpr h) c_67
              refine lv_bipush (v := (-3)) hx hb dX3_refusalOfPair_70 (by decide) ?_
              refine lv_goto (tgt := 76) hx hb dX3_refusalOfPair_72 (by decide) ?_
              exact m_iret C w dX3_refusalOfPair_76 (by omega) (by omega) (⟨by unfold unlK; simp_all, rfl⟩)
          · skip
            have n_39 : (isN k) = false := bI_f c_39
            refine lv_aload_n hx hb dX3_refusalOfPair_42 rfl (lv_at hl 1 rfl) ?_
            refine m_callV C w hl.1 (As := []) (rest := []) (c_Hold_isN l D y S0 M F h2 k2 n2 t2 na2 ta2 hh2 hk2 hn2) gX3_refusalOfPair_X0_isOfNumbers rfl hh2 (T := TX0) (N := 5) rfl (by decide +kernel) ⟨Nat.le_of_ble_eq_true rfl, Nat.le_of_ble_eq_true rfl⟩ rfl (by decide) dX3_refusalOfPair_43 ⟨by omega, by omega⟩ (fun v M1 H locs hq w => ?_)
            obtain ⟨rfl, hM1⟩ := hq
            rw [hM1] at w
            clear hM1 M1
            refine W.eq (g2 := F0 m 46 ls [.int (bI (isN k2))]) rfl ?_
            refine lv_if_eq (tgt := 53) hx hb dX3_refusalOfPair_46 (by decide) (fun c_46 => ?_) (fun c_46 => ?_)
            · skip
              have n_46 : (isN k2) = false := bI_f c_46
              refine lv_iconst (v := 0) hx hb dX3_refusalOfPair_53 (by decide) ?_
              refine lv_istore_n (lv' := [(2, .int 0), (0, .ref h), (1, .ref h2)]) hx hb dX3_refusalOfPair_54 rfl hl (by decide) rfl (fun ls hl => ?_)
              refine lv_iload_n hx hb dX3_refusalOfPair_55 rfl (lv_at hl 0 rfl) ?_
              refine lv_if_eq (tgt := 75) hx hb dX3_refusalOfPair_56 (by decide) (fun _ => ?_) (fun h => absurd (by decide) h)
              refine lv_iconst (v := 0) hx hb dX3_refusalOfPair_75 (by decide) ?_
              exact m_iret C w dX3_refusalOfPair_76 (by omega) (by omega) (⟨by unfold unlK; simp_all, rfl⟩)
            · skip
              have n_46 : (isN k2) = true := bI_t c_46
              refine lv_iconst (v := 1) hx hb dX3_refusalOfPair_49 (by decide) ?_
              refine lv_goto (tgt := 54) hx hb dX3_refusalOfPair_50 (by decide) ?_
              refine lv_istore_n (lv' := [(2, .int 1), (0, .ref h), (1, .ref h2)]) hx hb dX3_refusalOfPair_54 rfl hl (by decide) rfl (fun ls hl => ?_)
              refine lv_iload_n hx hb dX3_refusalOfPair_55 rfl (lv_at hl 0 rfl) ?_
              refine lv_if_eq (tgt := 75) hx hb dX3_refusalOfPair_56 (by decide) (fun h => absurd h (by decide)) (fun _ => ?_)
              refine lv_aload_n hx hb dX3_refusalOfPair_59 rfl (lv_at hl 1 rfl) ?_
              refine m_getN C w hh (index := 43) (host := "BeadBench") (T := TX0) (N := 5) rfl hi_X0 0 (by decide) (by decide +kernel) rfl dX3_refusalOfPair_60 ?_
              refine lv_aload_n hx hb dX3_refusalOfPair_63 rfl (lv_at hl 2 rfl) ?_
              refine m_getN C w hh2 (index := 43) (host := "BeadBench") (T := TX0) (N := 5) rfl hi_X0 0 (by decide) (by decide +kernel) rfl dX3_refusalOfPair_64 ?_
              refine lv_icmp_eq (tgt := 75) hx hb dX3_refusalOfPair_67 (by decide) (fun c_67 => ?_) (fun c_67 => ?_)
              · skip
                have n_67 : k = k2 := (nI_eq (by omega) (by omega)).mp (by first | exact c_67 | exact Classical.not_not.mp c_67)
                refine lv_iconst (v := 0) hx hb dX3_refusalOfPair_75 (by decide) ?_
                exact m_iret C w dX3_refusalOfPair_76 (by omega) (by omega) (⟨by unfold unlK; simp_all, rfl⟩)
              · skip
                have n_67 : ¬ k = k2 := fun h => absurd ((nI_eq (by omega) (by omega)).mpr h) c_67
                refine lv_bipush (v := (-3)) hx hb dX3_refusalOfPair_70 (by decide) ?_
                refine lv_goto (tgt := 76) hx hb dX3_refusalOfPair_72 (by decide) ?_
                exact m_iret C w dX3_refusalOfPair_76 (by omega) (by omega) (⟨by unfold unlK; simp_all, rfl⟩)
        · skip
          have n_29 : k2 = 1 := (nI_eq (by omega) (by omega)).mp (by first | exact c_29 | exact Classical.not_not.mp c_29)
          refine lv_bipush (v := (-2)) hx hb dX3_refusalOfPair_32 (by decide) ?_
          exact m_iret C w dX3_refusalOfPair_34 (by omega) (by omega) (⟨by unfold unlK; simp_all, rfl⟩)
    · skip
      have n_11 : k2 = 0 := (nI_eq (by omega) (by omega)).mp (by first | exact c_11 | exact Classical.not_not.mp c_11)
      refine lv_iconst (v := (-1)) hx hb dX3_refusalOfPair_14 (by decide) ?_
      exact m_iret C w dX3_refusalOfPair_15 (by omega) (by omega) (⟨by unfold unlK; simp_all, rfl⟩)
set_option maxRecDepth 100000 in
set_option maxHeartbeats 4000000 in
theorem c_Hold_shine (l : Launch) (D : va_G) (y : mY) (S0 : Nat) (M F : mp) (h k n : Nat) (t : Int32) (na ta : Nat) (hh : M h = some (eO 0 (hF k n t na ta))) (f : Nat → Int64) (hna : M na = some (eL y n f)) (hn : n ≤ 64) : ct l yX0_shine wsX0_shine 0 0 0 0 D y S0 M F [.ref h] (fun v M' => v = some (.int (sumW f n)) ∧ M' = M) := by
  refine ct_of cX0_shine 3 (some .int) [(0, .ref h)] (by decide +kernel) rfl (Nat.le_of_ble_eq_true rfl) rfl ?_
  intro p e s m below meth c ls C hnm hl w
  have hx := C.1
  have hb := C.2.1
  have hi_X0 : ∀ w ∈ u_ws RX0 TX0 5, w ∈ wsX0_shine := by decide +kernel
  refine lv_iconst (v := 0) hx hb dX0_shine_0 (by decide) ?_
  refine lv_istore_n (lv' := [(1, .int 0), (0, .ref h)]) hx hb dX0_shine_1 rfl hl (by decide) rfl (fun ls hl => ?_)
  refine lv_iconst (v := 0) hx hb dX0_shine_2 (by decide) ?_
  refine lv_istore_n (lv' := [(2, .int 0), (1, .int 0), (0, .ref h)]) hx hb dX0_shine_3 rfl hl (by decide) rfl (fun ls hl => ?_)
  have lp : ∀ (kf : Nat) (i : Nat), (i ≤ n) →  ∀ (H : Heap) (locs : List Loc) (ls : Array Slot), n - i = kf → mS D S0 M F s H locs → lv_has ls 3 [(2, .int (nI i)), (1, .int (sumW f i)), (0, .ref h)] → W p l e { frames := 0, cells := 0, slots := 0, locals := 0 } s m ([.ref h] : List Value).toArray below meth c H locs 0 0 (MQ below (mQ D S0 F (fun v M' => v = some (.int (sumW f n)) ∧ M' = M)) ([.ref h] : List Value).toArray s 0 0 (fun q => S0 ≤ q)) (F0 m 4 ls []) := by
    clear w hl
    intro kf
    induction kf using Nat.strongRecOn with
    | _ kf ih_lp =>
      intro i hi H locs ls hkf w hl
      refine lv_iload_n hx hb dX0_shine_4 rfl (lv_at hl 0 rfl) ?_
      refine lv_aload_n hx hb dX0_shine_5 rfl (lv_at hl 2 rfl) ?_
      refine m_get C w hh (index := 15) (T := TX0) (N := 5) rfl hi_X0 1 (by decide) (by decide +kernel) rfl dX0_shine_6 ?_
      refine lv_icmp_ge (tgt := 28) hx hb dX0_shine_9 (by decide) (fun c_9 => ?_) (fun c_9 => ?_)
      · skip
        have n_9 : n ≤ i := (nI_leI (by omega) (by omega)).mp c_9
        refine lv_iload_n hx hb dX0_shine_28 rfl (lv_at hl 1 rfl) ?_
        exact m_iret C w dX0_shine_29 (by omega) (by omega) (⟨by rw [show n = i by omega], rfl⟩)
      · skip
        have n_9 : ¬ n ≤ i := fun h => absurd ((nI_leI (by omega) (by omega)).mpr h) c_9
        refine lv_iload_n hx hb dX0_shine_12 rfl (lv_at hl 1 rfl) ?_
        refine lv_aload_n hx hb dX0_shine_13 rfl (lv_at hl 2 rfl) ?_
        refine m_get C w hh (index := 21) (T := TX0) (N := 5) rfl hi_X0 3 (by decide) (by decide +kernel) rfl dX0_shine_14 ?_
        refine lv_iload_n hx hb dX0_shine_17 rfl (lv_at hl 0 rfl) ?_
        refine m_lald C w hna i rfl (by omega) (by omega) dX0_shine_18 ?_
        refine lv_l2i hx hb dX0_shine_19 rfl ?_
        refine lv_iadd hx hb dX0_shine_20 ?_
        refine lv_istore_n (lv' := [(1, .int ((sumW f i) + ((f i).toInt32))), (2, .int (nI i)), (0, .ref h)]) hx hb dX0_shine_21 rfl hl (by decide) rfl (fun ls hl => ?_)
        refine lv_iinc (v := nI (i + 1)) (lv' := [(2, .int (nI (i + 1))), (1, .int ((sumW f i) + ((f i).toInt32))), (0, .ref h)]) hx hb dX0_shine_22 hl (k := 1) rfl (by first | exact nI_1 _ | exact nI_add _ _ | rfl) (by decide) rfl (fun ls hl => ?_)
        refine lv_goto (tgt := 4) hx hb dX0_shine_25 (by decide) ?_
        exact ih_lp (n - (i + 1)) (by omega) (i + 1) (by omega) _ _ ls rfl w (lv_sub hl [0, 1, 2] rfl)
  exact lp _ 0 (by omega) _ _ ls rfl w (lv_sub hl [0, 1, 2] rfl)
set_option maxRecDepth 100000 in
set_option maxHeartbeats 4000000 in
/-- Math.min -/
theorem c_min (l : Launch) (D : va_G) (y : mY) (S0 : Nat) (M F : mp) (a b : Nat) (ha : a < 2 ^ 31) (hb2 : b < 2 ^ 31) : ct l yJ9_min_7cf53 wsJ9_min_7cf53 0 0 0 0 D y S0 M F [.int (nI a), .int (nI b)] (fun v M' => v = some (.int (nI (min a b))) ∧ M' = M) := by
  refine ct_ofF cJ9_min_7cf53 2 (some .int) [(0, .int (nI a)), (1, .int (nI b))] (by decide +kernel) rfl (Nat.le_of_ble_eq_true rfl) rfl ?_
  intro p e s m below meth c ls C hnm hl w
  have hx := C.1
  have hb := C.2.1
  refine lv_iload_n hx hb dJ9_min_7cf53_0 rfl (lv_at hl 0 rfl) ?_
  refine lv_iload_n hx hb dJ9_min_7cf53_1 rfl (lv_at hl 1 rfl) ?_
  refine lv_icmp_gt (tgt := 9) hx hb dJ9_min_7cf53_2 (by decide) (fun c_2 => ?_) (fun c_2 => ?_)
  · skip
    have n_2 : b < a := (nI_ltI (by omega) (by omega)).mp c_2
    refine lv_iload_n hx hb dJ9_min_7cf53_9 rfl (lv_at hl 1 rfl) ?_
    exact m_iret C w dJ9_min_7cf53_10 (by omega) (by omega) (⟨by congr 3; omega, rfl⟩)
  · skip
    have n_2 : ¬ b < a := fun h => absurd ((nI_ltI (by omega) (by omega)).mpr h) c_2
    refine lv_iload_n hx hb dJ9_min_7cf53_5 rfl (lv_at hl 0 rfl) ?_
    refine lv_goto (tgt := 10) hx hb dJ9_min_7cf53_6 (by decide) ?_
    exact m_iret C w dJ9_min_7cf53_10 (by omega) (by omega) (⟨by congr 3; omega, rfl⟩)
set_option maxRecDepth 100000 in
set_option maxHeartbeats 4000000 in
/-- Math.floorMod -/
theorem c_floorMod (l : Launch) (D : va_G) (y : mY) (S0 : Nat) (M F : mp) (a : Int32) (k : Nat) (h0 : 0 < k) (hm : k < 2 ^ 31) : ct l yJ9_floorMod_7cf53 wsJ9_floorMod_7cf53 0 0 0 0 D y S0 M F [.int a, .int (nI k)] (fun v M' => v = some (.int (nI (fmd a k))) ∧ M' = M) := by
  refine ct_ofF cJ9_floorMod_7cf53 3 (some .int) [(0, .int a), (1, .int (nI k))] (by decide +kernel) rfl (Nat.le_of_ble_eq_true rfl) rfl ?_
  intro p e s m below meth c ls C hnm hl w
  have hx := C.1
  have hb := C.2.1
  refine lv_iload_n hx hb dJ9_floorMod_7cf53_0 rfl (lv_at hl 0 rfl) ?_
  refine lv_iload_n hx hb dJ9_floorMod_7cf53_1 rfl (lv_at hl 1 rfl) ?_
  refine lv_irem hx hb dJ9_floorMod_7cf53_2 (nI_ne0 h0 hm) ?_
  refine lv_topi (fun r er => ?_)
  refine lv_istore_n (lv' := [(2, .int r), (0, .int a), (1, .int (nI k))]) hx hb dJ9_floorMod_7cf53_3 rfl hl (by decide) rfl (fun ls hl => ?_)
  refine lv_iload_n hx hb dJ9_floorMod_7cf53_4 rfl (lv_at hl 1 rfl) ?_
  refine lv_iload_n hx hb dJ9_floorMod_7cf53_5 rfl (lv_at hl 2 rfl) ?_
  refine lv_ixor hx hb dJ9_floorMod_7cf53_6 ?_
  refine lv_if_ge (tgt := 18) hx hb dJ9_floorMod_7cf53_7 (by decide) (fun c_7 => ?_) (fun c_7 => ?_)
  · skip
    refine lv_iload_n hx hb dJ9_floorMod_7cf53_18 rfl (lv_at hl 0 rfl) ?_
    exact m_iret C w dJ9_floorMod_7cf53_19 (by omega) (by omega) (⟨congrArg (fun z => some (Value.int z)) (er.trans (fmd_pos a h0 hm (rem_nn hm (fun h => absurd ((xor_neg a hm).mpr h) (Int32.not_lt.mpr c_7))))), rfl⟩)
  · skip
    refine lv_iload_n hx hb dJ9_floorMod_7cf53_10 rfl (lv_at hl 0 rfl) ?_
    refine lv_if_eq (tgt := 18) hx hb dJ9_floorMod_7cf53_11 (by decide) (fun c_11 => ?_) (fun c_11 => ?_)
    · skip
      refine lv_iload_n hx hb dJ9_floorMod_7cf53_18 rfl (lv_at hl 0 rfl) ?_
      exact m_iret C w dJ9_floorMod_7cf53_19 (by omega) (by omega) (⟨congrArg (fun z => some (Value.int z)) (er.trans (fmd_pos a h0 hm (by rw [← er, c_11]; decide))), rfl⟩)
    · skip
      refine lv_iload_n hx hb dJ9_floorMod_7cf53_14 rfl (lv_at hl 0 rfl) ?_
      refine lv_iload_n hx hb dJ9_floorMod_7cf53_15 rfl (lv_at hl 2 rfl) ?_
      refine lv_iadd hx hb dJ9_floorMod_7cf53_16 ?_
      exact m_iret C w dJ9_floorMod_7cf53_17 (by omega) (by omega) (⟨congrArg (fun z => some (Value.int z)) ((congrArg (· + nI k) er).trans (fmd_neg a h0 hm (rem_ng hm ((xor_neg a hm).mp (Int32.not_le.mp c_7)) (by rw [← er]; exact c_11)))), rfl⟩)
theorem tix_neg {x : Int32} {k : Nat} (hx : x < 0) (hk : k < 6) (e : -x = nI k) : tix x = k := by
  unfold tix
  rw [if_pos hx, e]
  exact cN_nI (by omega)
theorem CW.tel {y : mY} {h0 : Nat} {A : Ad} {tr : Nat → Nat} {f : Nat → Nat → Int64} {g : Nat → Nat → Option Nat} {S : St} {M : mp} (h : CW y h0 A tr f g S M) (x : Int32) : CW y h0 A tr f g (tell S x) (mu M (xY A) (eI y 6 (va_up (sT S) (tix x) (sT S (tix x) + 1)))) := by
  obtain ⟨⟨h1, ⟨a2, b2, h2⟩, h3, h4, h5, h6, h7, h8⟩, ⟨k1, k2, k3⟩, h9⟩ := h
  refine ⟨⟨mu_k (m_ne h1 h5 ne_OA) h1, ⟨a2, b2, mu_k (m_ne h2 h5 ne_OA) h2⟩, mu_k (m_ne h3 h5 ne_HI) h3, mu_k (m_ne h4 h5 ne_OA) h4, mu_s, fun r hr => mu_k (m_ne (h6 r hr) h5 ne_OA) (h6 r hr), fun q q1 q2 => mu_k (m_ne (h7 q q1 q2) h5 ne_OA) (h7 q q1 q2), fun t ht => ?_⟩, ⟨fun j hj => mu_k (m_ne (k1 j hj) h5 ne_LI) (k1 j hj), fun j hj => mu_k (m_ne (k2 j hj) h5 ne_TI) (k2 j hj), k3⟩, h9⟩
  rcases h8 t ht with q | ⟨q, a3, b3, q3⟩ | q
  · exact Or.inl q
  · exact Or.inr (Or.inl ⟨q, a3, b3, mu_k (m_ne q3 h5 ne_OA) q3⟩)
  · exact Or.inr (Or.inr q)
set_option maxRecDepth 100000 in
set_option maxHeartbeats 4000000 in
theorem c_counted (l : Launch) (D : va_G) (y : mY) (S0 : Nat) (M F : mp) (h0 : Nat) (A : Ad) (tr : Nat → Nat) (f : Nat → Nat → Int64) (g : Nat → Nat → Option Nat) (S : St) (hC : CW y h0 A tr f g S M) (x : Int32) (hx6 : x < 0 → ∃ k, k < 6 ∧ -x = nI k) : ct l yX3_counted wsX3_counted 0 0 0 0 D y S0 M F [.ref h0, .int x] (fun v M' => v = some (.int x) ∧ CW y h0 A tr f g (tell S x) M') := by
  refine ct_of cX3_counted 2 (some .int) [(0, .ref h0), (1, .int x)] (by decide +kernel) rfl (Nat.le_of_ble_eq_true rfl) rfl ?_
  intro p e s m below meth c ls C hnm hl w
  have hx := C.1
  have hb := C.2.1
  have hi_X3 : ∀ w ∈ u_ws RX3 TX3 7, w ∈ wsX3_counted := by decide +kernel
  refine lv_aload_n hx hb dX3_counted_0 rfl (lv_at hl 0 rfl) ?_
  refine m_get C w hC.1.1 (index := 28) (T := TX3) (N := 7) rfl hi_X3 4 (by decide) (by decide +kernel) rfl dX3_counted_1 ?_
  refine lv_iload_n hx hb dX3_counted_4 rfl (lv_at hl 1 rfl) ?_
  refine lv_if_ge (tgt := 13) hx hb dX3_counted_5 (by decide) (fun c_5 => ?_) (fun c_5 => ?_)
  · skip
    refine lv_iconst (v := 0) hx hb dX3_counted_13 (by decide) ?_
    have hK6 : tix x = 0 := by unfold tix; rw [if_neg (fun h => absurd c_5 (by simpa using h))]
    obtain ⟨kx, hk, hkx⟩ : ∃ kx, kx < 6 ∧ tix x = kx := ⟨0, by omega, hK6⟩
    refine m_topi (y := nI kx) (by rw [← hkx, hK6]; rfl) ?_
    refine lv_dup2_11 hx hb dX3_counted_14 rfl rfl ?_
    refine m_iald C w hC.1.2.2.2.2.1 kx rfl (by omega) (by omega) dX3_counted_15 ?_
    refine lv_iconst (v := 1) hx hb dX3_counted_16 (by decide) ?_
    refine lv_iadd hx hb dX3_counted_17 ?_
    refine m_iast C w hC.1.2.2.2.2.1 kx rfl (by omega) (by omega) dX3_counted_18 (fun H locs w => ?_)
    obtain ⟨M1, e_M1⟩ : ∃ z, z = mu M (xY A) (eI y 6 (va_up (sT S) kx (((sT S) kx) + 1))) := ⟨_, rfl⟩
    have w : mS D S0 M1 F s H locs := by rw [e_M1]; exact w
    have f1_h0 : M1 h0 = some (eO 2 [.ref (xN A), .ref (xT A), .ref (xB A), va_rf ((sB S).map (xr A)), .ref (xY A), .int (nI (sI S)), .int (nI (sP S))]) := by rw [e_M1]; exact mu_k (m_ne hC.1.1 hC.1.2.2.2.2.1 (by first | exact ne_LT | exact ne_LI | exact ne_LH | exact ne_TL | exact ne_IL | exact ne_IH | exact ne_IT | exact ne_HL | exact ne_HI | exact ne_TI | exact ne_OA | exact ne_AO | (intro h; cases h))) hC.1.1
    have f1_xY_A : M1 (xY A) = some (eI y 6 (va_up (sT S) kx (((sT S) kx) + 1))) := by rw [e_M1]; exact mu_s
    refine lv_iload_n hx hb dX3_counted_19 rfl (lv_at hl 1 rfl) ?_
    exact m_iret C w dX3_counted_20 (by omega) (by omega) (⟨rfl, by rw [e_M1, ← hkx]; exact hC.tel x⟩)
  · skip
    refine lv_iload_n hx hb dX3_counted_8 rfl (lv_at hl 1 rfl) ?_
    refine lv_ineg hx hb dX3_counted_9 ?_
    refine lv_goto (tgt := 14) hx hb dX3_counted_10 (by decide) ?_
    obtain ⟨kx, hk, ek⟩ := hx6 (by simpa using c_5)
    have hkx : tix x = kx := tix_neg (by simpa using c_5) hk ek
    refine m_topi (y := nI kx) ek ?_
    refine lv_dup2_11 hx hb dX3_counted_14 rfl rfl ?_
    refine m_iald C w hC.1.2.2.2.2.1 kx rfl (by omega) (by omega) dX3_counted_15 ?_
    refine lv_iconst (v := 1) hx hb dX3_counted_16 (by decide) ?_
    refine lv_iadd hx hb dX3_counted_17 ?_
    refine m_iast C w hC.1.2.2.2.2.1 kx rfl (by omega) (by omega) dX3_counted_18 (fun H locs w => ?_)
    obtain ⟨M2, e_M2⟩ : ∃ z, z = mu M (xY A) (eI y 6 (va_up (sT S) kx (((sT S) kx) + 1))) := ⟨_, rfl⟩
    have w : mS D S0 M2 F s H locs := by rw [e_M2]; exact w
    have f2_h0 : M2 h0 = some (eO 2 [.ref (xN A), .ref (xT A), .ref (xB A), va_rf ((sB S).map (xr A)), .ref (xY A), .int (nI (sI S)), .int (nI (sP S))]) := by rw [e_M2]; exact mu_k (m_ne hC.1.1 hC.1.2.2.2.2.1 (by first | exact ne_LT | exact ne_LI | exact ne_LH | exact ne_TL | exact ne_IL | exact ne_IH | exact ne_IT | exact ne_HL | exact ne_HI | exact ne_TI | exact ne_OA | exact ne_AO | (intro h; cases h))) hC.1.1
    have f2_xY_A : M2 (xY A) = some (eI y 6 (va_up (sT S) kx (((sT S) kx) + 1))) := by rw [e_M2]; exact mu_s
    refine lv_iload_n hx hb dX3_counted_19 rfl (lv_at hl 1 rfl) ?_
    exact m_iret C w dX3_counted_20 (by omega) (by omega) (⟨rfl, by rw [e_M2, ← hkx]; exact hC.tel x⟩)
