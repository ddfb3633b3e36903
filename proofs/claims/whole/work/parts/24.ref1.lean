/-! the reference's world -/
def brI (S : St) : Int32 := match sB S with
  | none => -1
  | some r => nI r
def mA (y : mY) (fr : Nat → Nat) (cl go bf : Nat → Int64) (cn : Nat → Int32) (S : St) (k : Nat) : va_E := match k with
  | 0 => eI y 12 (fun t => nI (sH S t))
  | 1 => eI y 12 (sO S)
  | 2 => eI y 520 (fun r => nI (sK S r))
  | 3 => eI y 520 (fun r => nI (fr r))
  | 4 => eI y 520 (fun r => nI (sZ S r))
  | 5 => eL y 33000 cl
  | 6 => eI y 520 (fun k => nI (sS S k))
  | 7 => eI y 520 (sL S)
  | 8 => eL y 64 go
  | 9 => eL y 64 bf
  | _ => eI y 7 cn
abbrev mFl (B : Nat → Nat) (nc : Nat) (S : St) : List Value := [.ref (B 0), .ref (B 1), .ref (B 2), .ref (B 3), .ref (B 4), .ref (B 5), .int (nI (sN S)), .int (nI nc), .ref (B 6), .ref (B 7), .int (nI (sP S)), .ref (B 8), .ref (B 9), .int (brI S), .int (nI (sI S)), .ref (B 10)]
def MW (y : mY) (m0 : Nat) (B : Nat → Nat) (fr : Nat → Nat) (nc : Nat) (cl go bf : Nat → Int64) (cn : Nat → Int32) (S : St) (M : mp) : Prop := M m0 = some (eO 3 (mFl B nc S)) ∧ (∀ k, k < 11 → M (B k) = some (mA y fr cl go bf cn S k)) ∧ ∀ i j, i < 11 → j < 11 → B i = B j → i = j
/-- rows lie one behind another in 'cell' -/
def MR (fr : Nat → Nat) (nc : Nat) (cl bf : Nat → Int64) (cn : Nat → Int32) (S : St) : Prop := (∀ r, r < sN S → fr r + sZ S r ≤ nc) ∧ (∀ r q, r < q → q < sN S → fr r + sZ S r ≤ fr q) ∧ nc ≤ 64 * sN S ∧ (∀ x, nc ≤ x → cl x = 0) ∧ (∀ r i, r < sN S → i < sZ S r → cl (fr r + i) = sC S r i) ∧ (∀ r i, sB S = some r → i < sZ S r → bf i = sF S i) ∧ ∀ j, j < 6 → cn (j + 1) = sT S j
def RM (y : mY) (m0 : Nat) (S : St) (M : mp) : Prop := ∃ (B : Nat → Nat) (fr : Nat → Nat) (nc : Nat) (cl go bf : Nat → Int64) (cn : Nat → Int32), MW y m0 B fr nc cl go bf cn S M ∧ MR fr nc cl bf cn S
section MWK
variable {y : mY} {m0 : Nat} {B : Nat → Nat} {fr fr' : Nat → Nat} {nc nc' : Nat} {cl go bf cl' go' bf' : Nat → Int64} {cn cn' : Nat → Int32} {S S' : St} {M : mp}
theorem MW.a0 (h : MW y m0 B fr nc cl go bf cn S M) : M (B 0) = some (eI y 12 (fun t => nI (sH S t))) := h.2.1 0 (by decide)
theorem MW.a1 (h : MW y m0 B fr nc cl go bf cn S M) : M (B 1) = some (eI y 12 (sO S)) := h.2.1 1 (by decide)
theorem MW.a2 (h : MW y m0 B fr nc cl go bf cn S M) : M (B 2) = some (eI y 520 (fun r => nI (sK S r))) := h.2.1 2 (by decide)
theorem MW.a3 (h : MW y m0 B fr nc cl go bf cn S M) : M (B 3) = some (eI y 520 (fun r => nI (fr r))) := h.2.1 3 (by decide)
theorem MW.a4 (h : MW y m0 B fr nc cl go bf cn S M) : M (B 4) = some (eI y 520 (fun r => nI (sZ S r))) := h.2.1 4 (by decide)
theorem MW.a5 (h : MW y m0 B fr nc cl go bf cn S M) : M (B 5) = some (eL y 33000 cl) := h.2.1 5 (by decide)
theorem MW.a6 (h : MW y m0 B fr nc cl go bf cn S M) : M (B 6) = some (eI y 520 (fun k => nI (sS S k))) := h.2.1 6 (by decide)
theorem MW.a7 (h : MW y m0 B fr nc cl go bf cn S M) : M (B 7) = some (eI y 520 (sL S)) := h.2.1 7 (by decide)
theorem MW.a8 (h : MW y m0 B fr nc cl go bf cn S M) : M (B 8) = some (eL y 64 go) := h.2.1 8 (by decide)
theorem MW.a9 (h : MW y m0 B fr nc cl go bf cn S M) : M (B 9) = some (eL y 64 bf) := h.2.1 9 (by decide)
theorem MW.a10 (h : MW y m0 B fr nc cl go bf cn S M) : M (B 10) = some (eI y 7 cn) := h.2.1 10 (by decide)
theorem mA_arr (k : Nat) : ∃ x, mA y fr cl go bf cn S k = .inl x := by
  unfold mA
  split <;> exact ⟨_, rfl⟩
/-- an array is written -/
theorem MW.set (h : MW y m0 B fr nc cl go bf cn S M) (j : Nat) (hj : j < 11) (hf : mFl B nc' S' = mFl B nc S) (ha : ∀ k, k < 11 → k ≠ j → mA y fr' cl' go' bf' cn' S' k = mA y fr cl go bf cn S k) {e : va_E} (he : mA y fr' cl' go' bf' cn' S' j = e) : MW y m0 B fr' nc' cl' go' bf' cn' S' (mu M (B j) e) := by
  obtain ⟨x, hx⟩ := mA_arr (y := y) (fr := fr) (cl := cl) (go := go) (bf := bf) (cn := cn) (S := S) j
  refine ⟨?_, fun k hk => ?_, h.2.2⟩
  · rw [hf]
    exact mu_k (m_ne h.1 ((h.2.1 j hj).trans (congrArg some hx)) ne_OA) h.1
  · by_cases e : k = j
    · rw [e, mu_s, he]
    · rw [mu_n (fun q => e (h.2.2 k j hk hj q)), h.2.1 k hk, ha k hk e]
/-- a field is written -/
theorem MW.fld (h : MW y m0 B fr nc cl go bf cn S M) (ha : ∀ k, k < 11 → mA y fr' cl' go' bf' cn' S' k = mA y fr cl go bf cn S k) : MW y m0 B fr' nc' cl' go' bf' cn' S' (mu M m0 (eO 3 (mFl B nc' S'))) := by
  refine ⟨mu_s, fun k hk => ?_, h.2.2⟩
  obtain ⟨x, hx⟩ := mA_arr (y := y) (fr := fr) (cl := cl) (go := go) (bf := bf) (cn := cn) (S := S) k
  have h1 := h.2.1 k hk
  rw [ha k hk]
  exact mu_k (m_ne (h1.trans (congrArg some hx)) h.1 ne_AO) h1
end MWK
def inR (v a b : Int32) : Bool := !decide (v < a) && !decide (b < v)
theorem inR_P {v : Int32} {z : Nat} (hz : z < 2 ^ 30) : inR v 0 (nI z) = inP v (z + 1) := by
  unfold inR inP
  rw [show decide (nI z < v) = decide (nI (z + 1) ≤ v) from decide_eq_decide.mpr (lt_s1 hz)]
theorem inR_m1 {v : Int32} {z : Nat} (hz : z < 2 ^ 30) : inR v 0 (nI z - 1) = inP v z := by
  cases z with
  | zero =>
    unfold inR inP
    rw [show decide (nI 0 - 1 < v) = decide (nI 0 ≤ v) from decide_eq_decide.mpr (by
      rw [Int32.lt_iff_toInt_lt, Int32.le_iff_toInt_le, show (nI 0 - 1).toInt = -1 from by decide, show (nI 0).toInt = 0 from by decide]
      omega)]
  | succ z => rw [nI_pred]; exact inR_P (by omega)
theorem inR_N {k : Nat} (hk : k < 2 ^ 31) : inR (nI k) 2 9 = isN k := by
  unfold inR isN
  have h1 : decide (nI k < 2) = decide (k < 2) := decide_eq_decide.mpr (nI_ltI (b := 2) hk (by decide))
  have h2 : decide ((9 : Int32) < nI k) = decide (9 < k) := decide_eq_decide.mpr (nI_ltI (a := 9) (by decide) hk)
  rw [h1, h2, ← decide_not, ← decide_not]
  congr 1 <;> exact decide_eq_decide.mpr (by omega)
set_option maxRecDepth 100000 in
set_option maxHeartbeats 4000000 in
theorem r_in (l : Launch) (D : va_G) (y : mY) (S0 : Nat) (M F : mp) (a b e1 : Int32) : ct l yX4_in wsX4_in 0 0 0 0 D y S0 M F [.int a, .int b, .int e1] (fun v M' => v = some (.int (bI (inR a b e1))) ∧ M' = M) := by
  refine ct_of cX4_in 3 (some .boolean) [(0, .int a), (1, .int b), (2, .int e1)] (by decide +kernel) rfl (Nat.le_of_ble_eq_true rfl) rfl ?_
  intro p e s m below meth c ls C hnm hl w
  have hx := C.1
  have hb := C.2.1
  refine lv_iload_n hx hb dX4_in_0 rfl (lv_at hl 0 rfl) ?_
  refine lv_iload_n hx hb dX4_in_1 rfl (lv_at hl 1 rfl) ?_
  refine lv_icmp_lt (tgt := 14) hx hb dX4_in_2 (by decide) (fun c_2 => ?_) (fun c_2 => ?_)
  · skip
    refine lv_iconst (v := 0) hx hb dX4_in_14 (by decide) ?_
    exact m_zret C w dX4_in_15 (by omega) (by omega) (by first | exact Or.inl rfl | exact Or.inr rfl | exact bI_or _) (⟨by unfold inR; simp_all [bI], rfl⟩)
  · skip
    refine lv_iload_n hx hb dX4_in_5 rfl (lv_at hl 0 rfl) ?_
    refine lv_iload_n hx hb dX4_in_6 rfl (lv_at hl 2 rfl) ?_
    refine lv_icmp_gt (tgt := 14) hx hb dX4_in_7 (by decide) (fun c_7 => ?_) (fun c_7 => ?_)
    · skip
      refine lv_iconst (v := 0) hx hb dX4_in_14 (by decide) ?_
      exact m_zret C w dX4_in_15 (by omega) (by omega) (by first | exact Or.inl rfl | exact Or.inr rfl | exact bI_or _) (⟨by unfold inR; simp_all [bI], rfl⟩)
    · skip
      refine lv_iconst (v := 1) hx hb dX4_in_10 (by decide) ?_
      refine lv_goto (tgt := 15) hx hb dX4_in_11 (by decide) ?_
      exact m_zret C w dX4_in_15 (by omega) (by omega) (by first | exact Or.inl rfl | exact Or.inr rfl | exact bI_or _) (⟨by unfold inR; simp_all [bI], rfl⟩)
set_option maxRecDepth 100000 in
set_option maxHeartbeats 4000000 in
theorem r_isTray (l : Launch) (D : va_G) (y : mY) (S0 : Nat) (M F : mp) (t1 : Int32) : ct l yX4_isTray wsX4_isTray 1 22 0 0 D y S0 M F [.int t1] (fun v M' => v = some (.int (bI (inP t1 12))) ∧ M' = M) := by
  refine ct_of cX4_isTray 1 (some .boolean) [(0, .int t1)] (by decide +kernel) rfl (Nat.le_of_ble_eq_true rfl) rfl ?_
  intro p e s m below meth c ls C hnm hl w
  have hx := C.1
  have hb := C.2.1
  refine lv_iload_n hx hb dX4_isTray_0 rfl (lv_at hl 0 rfl) ?_
  refine lv_iconst (v := 0) hx hb dX4_isTray_1 (by decide) ?_
  refine lv_bipush (v := 11) hx hb dX4_isTray_2 (by decide) ?_
  refine m_callS C w hl.1 (As := [.int t1, .int 0, .int 11]) (rest := []) (r_in l D y S0 M F t1 0 11) ggX4_isTray_X4_in rfl (by decide +kernel) (by decide +kernel) (by decide +kernel) (show (_ ≠ _ ∧ _ ≠ _ ∧ _ = some 3) by decide +kernel) ⟨Nat.le_of_ble_eq_true rfl, Nat.le_of_ble_eq_true rfl⟩ rfl (Nat.le_of_ble_eq_true rfl) dX4_isTray_4 ⟨Nat.le_of_ble_eq_true rfl, Nat.le_of_ble_eq_true rfl⟩ (fun v M1 H locs hq w => ?_)
  obtain ⟨rfl, hM1⟩ := hq
  rw [hM1] at w
  clear hM1 M1
  refine W.eq (g2 := F0 m 7 ls [.int (bI (inR t1 0 11))]) rfl ?_
  exact m_zret C w dX4_isTray_7 (by omega) (by omega) (by first | exact Or.inl rfl | exact Or.inr rfl | exact bI_or _) (⟨by rw [show inR t1 0 11 = inP t1 12 from inR_P (z := 11) (by omega)], rfl⟩)
set_option maxRecDepth 100000 in
set_option maxHeartbeats 4000000 in
theorem r_isN (l : Launch) (D : va_G) (y : mY) (S0 : Nat) (M F : mp) (k : Nat) (hk : k < 2 ^ 31) : ct l yX4_isNumbers wsX4_isNumbers 1 22 0 0 D y S0 M F [.int (nI k)] (fun v M' => v = some (.int (bI (isN k))) ∧ M' = M) := by
  refine ct_of cX4_isNumbers 1 (some .boolean) [(0, .int (nI k))] (by decide +kernel) rfl (Nat.le_of_ble_eq_true rfl) rfl ?_
  intro p e s m below meth c ls C hnm hl w
  have hx := C.1
  have hb := C.2.1
  refine lv_iload_n hx hb dX4_isNumbers_0 rfl (lv_at hl 0 rfl) ?_
  refine lv_iconst (v := 2) hx hb dX4_isNumbers_1 (by decide) ?_
  refine lv_bipush (v := 9) hx hb dX4_isNumbers_2 (by decide) ?_
  refine m_callS C w hl.1 (As := [.int (nI k), .int 2, .int 9]) (rest := []) (r_in l D y S0 M F (nI k) 2 9) ggX4_isNumbers_X4_in rfl (by decide +kernel) (by decide +kernel) (by decide +kernel) (show (_ ≠ _ ∧ _ ≠ _ ∧ _ = some 3) by decide +kernel) ⟨Nat.le_of_ble_eq_true rfl, Nat.le_of_ble_eq_true rfl⟩ rfl (Nat.le_of_ble_eq_true rfl) dX4_isNumbers_4 ⟨Nat.le_of_ble_eq_true rfl, Nat.le_of_ble_eq_true rfl⟩ (fun v M1 H locs hq w => ?_)
  obtain ⟨rfl, hM1⟩ := hq
  rw [hM1] at w
  clear hM1 M1
  refine W.eq (g2 := F0 m 7 ls [.int (bI (inR (nI k) 2 9))]) rfl ?_
  exact m_zret C w dX4_isNumbers_7 (by omega) (by omega) (by first | exact Or.inl rfl | exact Or.inr rfl | exact bI_or _) (⟨by rw [inR_N hk], rfl⟩)
set_option maxRecDepth 100000 in
set_option maxHeartbeats 4000000 in
theorem r_isRow (l : Launch) (D : va_G) (y : mY) (S0 : Nat) (M F : mp) (m0 : Nat) (B : Nat → Nat) (fr : Nat → Nat) (nc : Nat) (cl go bf bq : Nat → Int64) (cn : Nat → Int32) (S : St) (hW : MW y m0 B fr nc cl go bf cn S M) (hQ : MR fr nc cl bq cn S) (c0 : Nat) (hI : Inv c0 S) (t : Nat) (ht : t < 12) : ct l yX4_isRow wsX4_isRow 0 0 0 0 D y S0 M F [.ref m0, .int (nI t)] (fun v M' => v = some (.int (bI (decide (2 ≤ sH S t)))) ∧ M' = M) := by
  refine ct_of cX4_isRow 2 (some .boolean) [(0, .ref m0), (1, .int (nI t))] (by decide +kernel) rfl (Nat.le_of_ble_eq_true rfl) rfl ?_
  intro p e s m below meth c ls C hnm hl w
  have hx := C.1
  have hb := C.2.1
  have hi_X4 : ∀ w ∈ u_ws RX4 TX4 16, w ∈ wsX4_isRow := by decide +kernel
  have hk13 := (hI.2.2.2.2.2.2.1 t ht).1
  refine lv_aload_n hx hb dX4_isRow_0 rfl (lv_at hl 0 rfl) ?_
  refine m_get C w hW.1 (index := 7) (T := TX4) (N := 16) rfl hi_X4 0 (by decide) (by decide +kernel) rfl dX4_isRow_1 ?_
  refine lv_iload_n hx hb dX4_isRow_4 rfl (lv_at hl 1 rfl) ?_
  refine m_iald C w hW.a0 t rfl (by omega) (by omega) dX4_isRow_5 ?_
  refine lv_iconst (v := 1) hx hb dX4_isRow_6 (by decide) ?_
  refine lv_icmp_le (tgt := 14) hx hb dX4_isRow_7 (by decide) (fun c_7 => ?_) (fun c_7 => ?_)
  · skip
    have n_7 : (sH S t) ≤ 1 := (nI_leI (by omega) (by omega)).mp c_7
    refine lv_iconst (v := 0) hx hb dX4_isRow_14 (by decide) ?_
    exact m_zret C w dX4_isRow_15 (by omega) (by omega) (by first | exact Or.inl rfl | exact Or.inr rfl | exact bI_or _) (⟨by simp [bI]; omega, rfl⟩)
  · skip
    have n_7 : ¬ (sH S t) ≤ 1 := fun h => absurd ((nI_leI (by omega) (by omega)).mpr h) c_7
    refine lv_iconst (v := 1) hx hb dX4_isRow_10 (by decide) ?_
    refine lv_goto (tgt := 15) hx hb dX4_isRow_11 (by decide) ?_
    exact m_zret C w dX4_isRow_15 (by omega) (by omega) (by first | exact Or.inl rfl | exact Or.inr rfl | exact bI_or _) (⟨by simp [bI]; omega, rfl⟩)
set_option maxRecDepth 100000 in
set_option maxHeartbeats 4000000 in
theorem r_lacks (l : Launch) (D : va_G) (y : mY) (S0 : Nat) (M F : mp) (m0 : Nat) (B : Nat → Nat) (fr : Nat → Nat) (nc : Nat) (cl go bf bq : Nat → Int64) (cn : Nat → Int32) (S : St) (hW : MW y m0 B fr nc cl go bf cn S M) (hQ : MR fr nc cl bq cn S) (c0 : Nat) (hI : Inv c0 S) (t : Nat) (ht : t < 12) : ct l yX4_lacks wsX4_lacks 0 0 0 0 D y S0 M F [.ref m0, .int (nI t)] (fun v M' => v = some (.int (fR (sH S t))) ∧ M' = M) := by
  refine ct_of cX4_lacks 2 (some .int) [(0, .ref m0), (1, .int (nI t))] (by decide +kernel) rfl (Nat.le_of_ble_eq_true rfl) rfl ?_
  intro p e s m below meth c ls C hnm hl w
  have hx := C.1
  have hb := C.2.1
  have hi_X4 : ∀ w ∈ u_ws RX4 TX4 16, w ∈ wsX4_lacks := by decide +kernel
  have hk13 := (hI.2.2.2.2.2.2.1 t ht).1
  refine lv_aload_n hx hb dX4_lacks_0 rfl (lv_at hl 0 rfl) ?_
  refine m_get C w hW.1 (index := 7) (T := TX4) (N := 16) rfl hi_X4 0 (by decide) (by decide +kernel) rfl dX4_lacks_1 ?_
  refine lv_iload_n hx hb dX4_lacks_4 rfl (lv_at hl 1 rfl) ?_
  refine m_iald C w hW.a0 t rfl (by omega) (by omega) dX4_lacks_5 ?_
  refine lv_if_ne (tgt := 13) hx hb dX4_lacks_6 (by decide) (fun c_6 => ?_) (fun c_6 => ?_)
  · skip
    have n_6 : ¬ (sH S t) = 0 := fun h => absurd ((nI_eq (by omega) (by omega)).mpr h) c_6
    refine lv_aload_n hx hb dX4_lacks_13 rfl (lv_at hl 0 rfl) ?_
    refine m_get C w hW.1 (index := 7) (T := TX4) (N := 16) rfl hi_X4 0 (by decide) (by decide +kernel) rfl dX4_lacks_14 ?_
    refine lv_iload_n hx hb dX4_lacks_17 rfl (lv_at hl 1 rfl) ?_
    refine m_iald C w hW.a0 t rfl (by omega) (by omega) dX4_lacks_18 ?_
    refine lv_iconst (v := 1) hx hb dX4_lacks_19 (by decide) ?_
    refine lv_icmp_ne (tgt := 28) hx hb dX4_lacks_20 (by decide) (fun c_20 => ?_) (fun c_20 => ?_)
    · skip
      have n_20 : ¬ (sH S t) = 1 := fun h => absurd ((nI_eq (by omega) (by omega)).mpr h) c_20
      refine lv_iconst (v := 0) hx hb dX4_lacks_28 (by decide) ?_
      exact m_iret C w dX4_lacks_29 (by omega) (by omega) (⟨by unfold fR; simp_all, rfl⟩)
    · skip
      have n_20 : (sH S t) = 1 := (nI_eq (by omega) (by omega)).mp (by first | exact c_20 | exact Classical.not_not.mp c_20)
      refine lv_bipush (v := (-2)) hx hb dX4_lacks_23 (by decide) ?_
      refine lv_goto (tgt := 29) hx hb dX4_lacks_25 (by decide) ?_
      exact m_iret C w dX4_lacks_29 (by omega) (by omega) (⟨by unfold fR; simp_all, rfl⟩)
  · skip
    have n_6 : (sH S t) = 0 := (nI_eq (by omega) (by omega)).mp (by first | exact c_6 | exact Classical.not_not.mp c_6)
    refine lv_iconst (v := (-1)) hx hb dX4_lacks_9 (by decide) ?_
    refine lv_goto (tgt := 29) hx hb dX4_lacks_10 (by decide) ?_
    exact m_iret C w dX4_lacks_29 (by omega) (by omega) (⟨by unfold fR; simp_all, rfl⟩)
theorem rowI {c : Nat} {S : St} (hI : Inv c S) {t : Nat} (ht : t < 12) (h2 : 2 ≤ sH S t) : sO S t = nI (rowT S t) ∧ rowT S t < sN S ∧ sK S (rowT S t) = sH S t ∧ rowT S t < 512 ∧ zT S t = sZ S (rowT S t) := by
  obtain ⟨r, hr, e, e2⟩ := (hI.2.2.2.2.2.2.1 t ht).2 h2
  have hb1 := hI.1
  have hb2 := hI.2.2.1
  have er : rowT S t = r := by
    unfold rowT
    rw [e]
    exact cN_nI (by omega)
  rw [er]
  refine ⟨e, hr, e2, by omega, ?_⟩
  unfold zT
  rw [if_pos h2, er]
set_option maxRecDepth 100000 in
set_option maxHeartbeats 4000000 in
theorem r_sizeOf (l : Launch) (D : va_G) (y : mY) (S0 : Nat) (M F : mp) (m0 : Nat) (B : Nat → Nat) (fr : Nat → Nat) (nc : Nat) (cl go bf bq : Nat → Int64) (cn : Nat → Int32) (S : St) (hW : MW y m0 B fr nc cl go bf cn S M) (hQ : MR fr nc cl bq cn S) (c0 : Nat) (hI : Inv c0 S) (t : Nat) (ht : t < 12) : ct l yX4_sizeOf wsX4_sizeOf 1 21 0 0 D y S0 M F [.ref m0, .int (nI t)] (fun v M' => v = some (.int (nI (zT S t))) ∧ M' = M) := by
  refine ct_of cX4_sizeOf 2 (some .int) [(0, .ref m0), (1, .int (nI t))] (by decide +kernel) rfl (Nat.le_of_ble_eq_true rfl) rfl ?_
  intro p e s m below meth c ls C hnm hl w
  have hx := C.1
  have hb := C.2.1
  have hi_X4 : ∀ w ∈ u_ws RX4 TX4 16, w ∈ wsX4_sizeOf := by decide +kernel
  have hk13 := (hI.2.2.2.2.2.2.1 t ht).1
  refine lv_aload_n hx hb dX4_sizeOf_0 rfl (lv_at hl 0 rfl) ?_
  refine lv_iload_n hx hb dX4_sizeOf_1 rfl (lv_at hl 1 rfl) ?_
  refine m_callV C w hl.1 (As := [.int (nI t)]) (rest := []) (r_isRow l D y S0 M F m0 B fr nc cl go bf bq cn S hW hQ c0 hI t ht) gX4_sizeOf_X4_isRow rfl hW.1 (T := TX4) (N := 16) rfl (show (_ = _ ∧ _ ≠ _ ∧ _ ≠ _ ∧ _ = some 1) by decide +kernel) ⟨Nat.le_of_ble_eq_true rfl, Nat.le_of_ble_eq_true rfl⟩ rfl (Nat.le_of_ble_eq_true rfl) dX4_sizeOf_2 ⟨Nat.le_of_ble_eq_true rfl, Nat.le_of_ble_eq_true rfl⟩ (fun v M1 H locs hq w => ?_)
  obtain ⟨rfl, hM1⟩ := hq
  rw [hM1] at w
  clear hM1 M1
  refine W.eq (g2 := F0 m 5 ls [.int (bI (decide (2 ≤ sH S t)))]) rfl ?_
  refine lv_if_eq (tgt := 22) hx hb dX4_sizeOf_5 (by decide) (fun c_5 => ?_) (fun c_5 => ?_)
  · skip
    have n_5 : (decide (2 ≤ sH S t)) = false := bI_f c_5
    refine lv_iconst (v := 0) hx hb dX4_sizeOf_22 (by decide) ?_
    exact m_iret C w dX4_sizeOf_23 (by omega) (by omega) (⟨by unfold zT; rw [if_neg (of_decide_eq_false n_5)]; rfl, rfl⟩)
  · skip
    have n_5 : (decide (2 ≤ sH S t)) = true := bI_t c_5
    have h2 : 2 ≤ sH S t := of_decide_eq_true n_5
    obtain ⟨eo, hr, -, hr5, hzT⟩ := rowI hI ht h2
    refine lv_aload_n hx hb dX4_sizeOf_8 rfl (lv_at hl 0 rfl) ?_
    refine m_get C w hW.1 (index := 22) (T := TX4) (N := 16) rfl hi_X4 4 (by decide) (by decide +kernel) rfl dX4_sizeOf_9 ?_
    refine lv_aload_n hx hb dX4_sizeOf_12 rfl (lv_at hl 0 rfl) ?_
    refine m_get C w hW.1 (index := 13) (T := TX4) (N := 16) rfl hi_X4 1 (by decide) (by decide +kernel) rfl dX4_sizeOf_13 ?_
    refine lv_iload_n hx hb dX4_sizeOf_16 rfl (lv_at hl 1 rfl) ?_
    refine m_iald C w hW.a1 t rfl (by omega) (by omega) dX4_sizeOf_17 ?_
    refine m_topi (y := nI (rowT S t)) eo ?_
    refine m_iald C w hW.a4 (rowT S t) rfl (by omega) (by omega) dX4_sizeOf_18 ?_
    refine lv_goto (tgt := 23) hx hb dX4_sizeOf_19 (by decide) ?_
    exact m_iret C w dX4_sizeOf_23 (by omega) (by omega) (⟨by rw [hzT], rfl⟩)
set_option maxRecDepth 100000 in
set_option maxHeartbeats 4000000 in
theorem r_get (l : Launch) (D : va_G) (y : mY) (S0 : Nat) (M F : mp) (m0 : Nat) (B : Nat → Nat) (fr : Nat → Nat) (nc : Nat) (cl go bf bq : Nat → Int64) (cn : Nat → Int32) (S : St) (hW : MW y m0 B fr nc cl go bf cn S M) (hQ : MR fr nc cl bq cn S) (c0 : Nat) (hI : Inv c0 S) (t : Nat) (ht : t < 12) (h2 : 2 ≤ sH S t) (i : Nat) (hi : i < zT S t) : ct l yX4_get wsX4_get 0 0 0 0 D y S0 M F [.ref m0, .int (nI t), .int (nI i)] (fun v M' => v = some (.long (sC S (rowT S t) i)) ∧ M' = M) := by
  refine ct_of cX4_get 3 (some .long) [(0, .ref m0), (1, .int (nI t)), (2, .int (nI i))] (by decide +kernel) rfl (Nat.le_of_ble_eq_true rfl) rfl ?_
  intro p e s m below meth c ls C hnm hl w
  have hx := C.1
  have hb := C.2.1
  have hi_X4 : ∀ w ∈ u_ws RX4 TX4 16, w ∈ wsX4_get := by decide +kernel
  obtain ⟨eo, hr, -, hr5, hzT⟩ := rowI hI ht h2
  have hz := zT_le hI ht
  have hq1 := hQ.1 (rowT S t) hr
  have hq2 := hQ.2.2.1
  have hb1 := hI.1
  have hb2 := hI.2.2.1
  refine lv_aload_n hx hb dX4_get_0 rfl (lv_at hl 0 rfl) ?_
  refine m_get C w hW.1 (index := 26) (T := TX4) (N := 16) rfl hi_X4 5 (by decide) (by decide +kernel) rfl dX4_get_1 ?_
  refine lv_aload_n hx hb dX4_get_4 rfl (lv_at hl 0 rfl) ?_
  refine m_get C w hW.1 (index := 19) (T := TX4) (N := 16) rfl hi_X4 3 (by decide) (by decide +kernel) rfl dX4_get_5 ?_
  refine lv_aload_n hx hb dX4_get_8 rfl (lv_at hl 0 rfl) ?_
  refine m_get C w hW.1 (index := 13) (T := TX4) (N := 16) rfl hi_X4 1 (by decide) (by decide +kernel) rfl dX4_get_9 ?_
  refine lv_iload_n hx hb dX4_get_12 rfl (lv_at hl 1 rfl) ?_
  refine m_iald C w hW.a1 t rfl (by omega) (by omega) dX4_get_13 ?_
  refine m_topi (y := nI (rowT S t)) eo ?_
  refine m_iald C w hW.a3 (rowT S t) rfl (by omega) (by omega) dX4_get_14 ?_
  refine lv_iload_n hx hb dX4_get_15 rfl (lv_at hl 2 rfl) ?_
  refine lv_iadd hx hb dX4_get_16 ?_
  refine m_topi (y := nI ((fr (rowT S t)) + i)) (by first | exact nI_add _ _ | exact nI_1 _) ?_
  refine m_lald C w hW.a5 ((fr (rowT S t)) + i) rfl (by omega) (by omega) dX4_get_17 ?_
  exact m_lret C w dX4_get_18 (by omega) (by omega) (⟨by rw [hQ.2.2.2.2.1 _ i hr (by omega)], rfl⟩)
theorem MR.set {fr : Nat → Nat} {nc : Nat} {cl bf : Nat → Int64} {cn : Nat → Int32} {S : St} (h : MR fr nc cl bf cn S) {r i : Nat} (hr : r < sN S) (hi : i < sZ S r) (x : Int64) : MR fr nc (va_up cl (fr r + i) x) bf cn (pRC S r i x) := by
  obtain ⟨h1, h2, h3, h4, h5, h6, h7⟩ := h
  refine ⟨h1, h2, h3, fun z hz => ?_, fun q j hq hj => ?_, h6, h7⟩
  · have := h1 r hr
    rw [va_upo (by omega)]
    exact h4 z hz
  · have hj : j < sZ S q := hj
    have hq : q < sN S := hq
    show va_up cl (fr r + i) x (fr q + j) = va_up (sC S) r (va_up (sC S r) i x) q j
    by_cases e : q = r
    · by_cases e2 : j = i
      · rw [e, e2, va_ups, va_ups, va_ups]
      · rw [e, va_ups, va_upo e2, va_upo (by omega)]
        rw [e] at hj
        exact h5 r j hr hj
    · rw [va_upo (f := sC S) e, va_upo ?_]
      · exact h5 q j hq hj
      · rcases Nat.lt_or_gt_of_ne e with g | g
        · have := h2 q r g hr; omega
        · have := h2 r q g hq; omega
set_option maxRecDepth 100000 in
set_option maxHeartbeats 4000000 in
theorem r_set (l : Launch) (D : va_G) (y : mY) (S0 : Nat) (M F : mp) (m0 : Nat) (B : Nat → Nat) (fr : Nat → Nat) (nc : Nat) (cl go bf bq : Nat → Int64) (cn : Nat → Int32) (S : St) (hW : MW y m0 B fr nc cl go bf cn S M) (hQ : MR fr nc cl bq cn S) (c0 : Nat) (hI : Inv c0 S) (t : Nat) (ht : t < 12) (h2 : 2 ≤ sH S t) (i : Nat) (hi : i < zT S t) (x : Int64) : ct l yX4_set wsX4_set 0 0 0 0 D y S0 M F [.ref m0, .int (nI t), .int (nI i), .long x] (fun v M' => v = none ∧ MW y m0 B fr nc (va_up cl (fr (rowT S t) + i) x) go bf cn (pRC S (rowT S t) i x) M' ∧ MR fr nc (va_up cl (fr (rowT S t) + i) x) bq cn (pRC S (rowT S t) i x)) := by
  refine ct_of cX4_set 5 none [(0, .ref m0), (1, .int (nI t)), (2, .int (nI i)), (3, .long x)] (by decide +kernel) rfl (Nat.le_of_ble_eq_true rfl) rfl ?_
  intro p e s m below meth c ls C hnm hl w
  have hx := C.1
  have hb := C.2.1
  have hi_X4 : ∀ w ∈ u_ws RX4 TX4 16, w ∈ wsX4_set := by decide +kernel
  obtain ⟨eo, hr, -, hr5, hzT⟩ := rowI hI ht h2
  have hz := zT_le hI ht
  have hq1 := hQ.1 (rowT S t) hr
  have hq2 := hQ.2.2.1
  have hb1 := hI.1
  have hb2 := hI.2.2.1
  refine lv_aload_n hx hb dX4_set_0 rfl (lv_at hl 0 rfl) ?_
  refine m_get C w hW.1 (index := 26) (T := TX4) (N := 16) rfl hi_X4 5 (by decide) (by decide +kernel) rfl dX4_set_1 ?_
  refine lv_aload_n hx hb dX4_set_4 rfl (lv_at hl 0 rfl) ?_
  refine m_get C w hW.1 (index := 19) (T := TX4) (N := 16) rfl hi_X4 3 (by decide) (by decide +kernel) rfl dX4_set_5 ?_
  refine lv_aload_n hx hb dX4_set_8 rfl (lv_at hl 0 rfl) ?_
  refine m_get C w hW.1 (index := 13) (T := TX4) (N := 16) rfl hi_X4 1 (by decide) (by decide +kernel) rfl dX4_set_9 ?_
  refine lv_iload_n hx hb dX4_set_12 rfl (lv_at hl 1 rfl) ?_
  refine m_iald C w hW.a1 t rfl (by omega) (by omega) dX4_set_13 ?_
  refine m_topi (y := nI (rowT S t)) eo ?_
  refine m_iald C w hW.a3 (rowT S t) rfl (by omega) (by omega) dX4_set_14 ?_
  refine lv_iload_n hx hb dX4_set_15 rfl (lv_at hl 2 rfl) ?_
  refine lv_iadd hx hb dX4_set_16 ?_
  refine m_topi (y := nI ((fr (rowT S t)) + i)) (by first | exact nI_add _ _ | exact nI_1 _) ?_
  refine lv_lload_n hx hb dX4_set_17 rfl (lv_at hl 3 rfl) ?_
  refine m_last C w hW.a5 (fr (rowT S t) + i) rfl (by omega) (by omega) dX4_set_18 (fun H locs w => ?_)
  exact m_vret C w dX4_set_19 (by omega) (by omega) (⟨rfl, hW.set 5 (by decide) rfl (by intro k hk hne; rcases (show k = 0 ∨ k = 1 ∨ k = 2 ∨ k = 3 ∨ k = 4 ∨ k = 5 ∨ k = 6 ∨ k = 7 ∨ k = 8 ∨ k = 9 ∨ k = 10 by omega) with rfl | rfl | rfl | rfl | rfl | rfl | rfl | rfl | rfl | rfl | rfl <;> first | rfl | exact absurd rfl hne) rfl, hQ.set hr (by omega) x⟩)
set_option maxRecDepth 100000 in
set_option maxHeartbeats 4000000 in
theorem r_goes (l : Launch) (D : va_G) (y : mY) (S0 : Nat) (M F : mp) (m0 : Nat) (B : Nat → Nat) (fr : Nat → Nat) (nc : Nat) (cl go bf bq : Nat → Int64) (cn : Nat → Int32) (S : St) (hW : MW y m0 B fr nc cl go bf cn S M) (hQ : MR fr nc cl bq cn S) (c0 : Nat) (hI : Inv c0 S) (k : Nat) (hk : k < 2 ^ 31) (x : Int64) (hx9 : isN k = true ∨ x = 0 ∨ k = 13 ∨ x < 0 ∨ ∃ pz, 1 ≤ pz ∧ pz ≤ sP S ∧ x = lN pz) : ct l yX4_goes wsX4_goes 2 42 0 0 D y S0 M F [.ref m0, .int (nI k), .long x] (fun v M' => v = some (.int (bI (gs S k x))) ∧ M' = M) := by
  refine ct_of cX4_goes 5 (some .boolean) [(0, .ref m0), (1, .int (nI k)), (2, .long x)] (by decide +kernel) rfl (Nat.le_of_ble_eq_true rfl) rfl ?_
  intro p e s m below meth c ls C hnm hl w
  have hx := C.1
  have hb := C.2.1
  have hi_X4 : ∀ w ∈ u_ws RX4 TX4 16, w ∈ wsX4_goes := by decide +kernel
  have hs9 : ∀ p, 1 ≤ p → p ≤ sP S → sS S p ≤ 4 := fun p a b => (hI.2.2.2.2.1 p a b).2
  refine lv_iload_n hx hb dX4_goes_0 rfl (lv_at hl 1 rfl) ?_
  refine m_callS C w hl.1 (As := [.int (nI k)]) (rest := []) (r_isN l D y S0 M F k hk) ggX4_goes_X4_isNumbers rfl (by decide +kernel) (by decide +kernel) (by decide +kernel) (show (_ ≠ _ ∧ _ ≠ _ ∧ _ = some 1) by decide +kernel) ⟨Nat.le_of_ble_eq_true rfl, Nat.le_of_ble_eq_true rfl⟩ rfl (Nat.le_of_ble_eq_true rfl) dX4_goes_1 ⟨Nat.le_of_ble_eq_true rfl, Nat.le_of_ble_eq_true rfl⟩ (fun v M1 H locs hq w => ?_)
  obtain ⟨rfl, hM1⟩ := hq
  rw [hM1] at w
  clear hM1 M1
  refine W.eq (g2 := F0 m 4 ls [.int (bI (isN k))]) rfl ?_
  refine lv_if_ne (tgt := 13) hx hb dX4_goes_4 (by decide) (fun c_4 => ?_) (fun c_4 => ?_)
  · skip
    have n_4 : (isN k) = true := bI_t c_4
    refine lv_iconst (v := 1) hx hb dX4_goes_13 (by decide) ?_
    exact m_zret C w dX4_goes_14 (by omega) (by omega) (by first | exact Or.inl rfl | exact Or.inr rfl | exact bI_or _) (⟨by unfold gs; simp_all [bI], rfl⟩)
  · skip
    have n_4 : (isN k) = false := bI_f c_4
    refine lv_lload_n hx hb dX4_goes_7 rfl (lv_at hl 2 rfl) ?_
    refine lv_lconst (v := 0) hx hb dX4_goes_8 (by decide) ?_
    refine W.lcmp hx hb dX4_goes_9 ?_
    refine lv_if_ne (tgt := 15) hx hb dX4_goes_10 (by decide) (fun c_10 => ?_) (fun c_10 => ?_)
    · skip
      have n_10 := (not_congr (lg_cmp_eq _ _)).mp c_10
      refine lv_iload_n hx hb dX4_goes_15 rfl (lv_at hl 1 rfl) ?_
      refine lv_bipush (v := 13) hx hb dX4_goes_16 (by decide) ?_
      refine lv_icmp_eq (tgt := 27) hx hb dX4_goes_18 (by decide) (fun c_18 => ?_) (fun c_18 => ?_)
      · skip
        have n_18 : k = 13 := (nI_eq (by omega) (by omega)).mp (by first | exact c_18 | exact Classical.not_not.mp c_18)
        refine lv_iload_n hx hb dX4_goes_27 rfl (lv_at hl 1 rfl) ?_
        refine lv_bipush (v := 13) hx hb dX4_goes_28 (by decide) ?_
        refine lv_icmp_ne (tgt := 43) hx hb dX4_goes_30 (by decide) (fun c_30 => ?_) (fun c_30 => ?_)
        · skip
          have n_30 : ¬ k = 13 := fun h => absurd ((nI_eq (by omega) (by omega)).mpr h) c_30
          refine lv_iconst (v := 0) hx hb dX4_goes_43 (by decide) ?_
          exact m_zret C w dX4_goes_44 (by omega) (by omega) (by first | exact Or.inl rfl | exact Or.inr rfl | exact bI_or _) (⟨by
            unfold gs
            rw [n_4, if_pos (Or.inl n_18)]
            simp_all [bI], rfl⟩)
        · skip
          have n_30 : k = 13 := (nI_eq (by omega) (by omega)).mp (by first | exact c_30 | exact Classical.not_not.mp c_30)
          refine lv_lload_n hx hb dX4_goes_33 rfl (lv_at hl 2 rfl) ?_
          refine lv_lconst (v := 0) hx hb dX4_goes_34 (by decide) ?_
          refine W.lcmp hx hb dX4_goes_35 ?_
          refine lv_if_ge (tgt := 43) hx hb dX4_goes_36 (by decide) (fun c_36 => ?_) (fun c_36 => ?_)
          · skip
            have n_36 := (lg_cmp_ge _ _).mp c_36
            refine lv_iconst (v := 0) hx hb dX4_goes_43 (by decide) ?_
            exact m_zret C w dX4_goes_44 (by omega) (by omega) (by first | exact Or.inl rfl | exact Or.inr rfl | exact bI_or _) (⟨by
              unfold gs
              rw [n_4, if_pos (Or.inl n_18)]
              simp_all [bI], rfl⟩)
          · skip
            have n_36 := (not_congr (lg_cmp_ge _ _)).mp c_36
            refine lv_iconst (v := 1) hx hb dX4_goes_39 (by decide) ?_
            refine lv_goto (tgt := 44) hx hb dX4_goes_40 (by decide) ?_
            exact m_zret C w dX4_goes_44 (by omega) (by omega) (by first | exact Or.inl rfl | exact Or.inr rfl | exact bI_or _) (⟨by
              unfold gs
              rw [n_4, if_pos (Or.inl n_18)]
              simp_all [bI], rfl⟩)
      · skip
        have n_18 : ¬ k = 13 := fun h => absurd ((nI_eq (by omega) (by omega)).mpr h) c_18
        refine lv_lload_n hx hb dX4_goes_21 rfl (lv_at hl 2 rfl) ?_
        refine lv_lconst (v := 0) hx hb dX4_goes_22 (by decide) ?_
        refine W.lcmp hx hb dX4_goes_23 ?_
        refine lv_if_ge (tgt := 45) hx hb dX4_goes_24 (by decide) (fun c_24 => ?_) (fun c_24 => ?_)
        · skip
          have n_24 := (lg_cmp_ge _ _).mp c_24
          have hn45 : isN k = false := n_4
          obtain ⟨pz, hpa, hpb, ex⟩ : ∃ pz, 1 ≤ pz ∧ pz ≤ sP S ∧ x = lN pz := by
            rcases hx9 with q | q | q | q | q
            · rw [q] at n_4; cases n_4
            · exact absurd q n_10
            · exact absurd q n_18
            · exact absurd q (Int64.not_lt.mpr n_24)
            · exact q
          have hs4 := hs9 pz hpa hpb
          have hb1 := hI.2.1
          have hb2 := hI.2.2.1
          refine lv_aload_n hx hb dX4_goes_45 rfl (lv_at hl 0 rfl) ?_
          refine m_get C w hW.1 (index := 30) (T := TX4) (N := 16) rfl hi_X4 8 (by decide) (by decide +kernel) rfl dX4_goes_46 ?_
          refine lv_lload_n hx hb dX4_goes_49 rfl (lv_at hl 2 rfl) ?_
          refine lv_l2i (v := nI pz) hx hb dX4_goes_50 (by rw [ex]; exact lN_i pz) ?_
          refine m_iald C w hW.a6 pz rfl (by omega) (by omega) dX4_goes_51 ?_
          refine lv_istore (lv' := [(4, .int (nI (sS S pz))), (0, .ref m0), (1, .int (nI k)), (2, .long x)]) hx hb dX4_goes_52 hl (by decide) rfl (fun ls hl => ?_)
          refine lv_iload_n hx hb dX4_goes_54 rfl (lv_at hl 2 rfl) ?_
          refine lv_bipush (v := 10) hx hb dX4_goes_55 (by decide) ?_
          refine lv_icmp_eq (tgt := 84) hx hb dX4_goes_57 (by decide) (fun c_57 => ?_) (fun c_57 => ?_)
          · skip
            have n_57 : k = 10 := (nI_eq (by omega) (by omega)).mp (by first | exact c_57 | exact Classical.not_not.mp c_57)
            refine lv_iconst (v := 1) hx hb dX4_goes_84 (by decide) ?_
            refine lv_goto (tgt := 89) hx hb dX4_goes_85 (by decide) ?_
            exact m_zret C w dX4_goes_89 (by omega) (by omega) (by first | exact Or.inl rfl | exact Or.inr rfl | exact bI_or _) (⟨by
              have hsp : pN x = pz := by rw [ex]; exact lN_pN (by omega)
              have hxn : ¬ x < 0 := Int64.not_lt.mpr n_24
              unfold gs
              rw [hn45, hsp, if_neg (by rw [not_or]; exact ⟨n_18, hxn⟩)]
              simp_all [bI], rfl⟩)
          · skip
            have n_57 : ¬ k = 10 := fun h => absurd ((nI_eq (by omega) (by omega)).mpr h) c_57
            refine lv_iload_n hx hb dX4_goes_60 rfl (lv_at hl 2 rfl) ?_
            refine lv_bipush (v := 11) hx hb dX4_goes_61 (by decide) ?_
            refine lv_icmp_ne (tgt := 72) hx hb dX4_goes_63 (by decide) (fun c_63 => ?_) (fun c_63 => ?_)
            · skip
              have n_63 : ¬ k = 11 := fun h => absurd ((nI_eq (by omega) (by omega)).mpr h) c_63
              refine lv_iload_n hx hb dX4_goes_72 rfl (lv_at hl 2 rfl) ?_
              refine lv_bipush (v := 12) hx hb dX4_goes_73 (by decide) ?_
              refine lv_icmp_ne (tgt := 88) hx hb dX4_goes_75 (by decide) (fun c_75 => ?_) (fun c_75 => ?_)
              · skip
                have n_75 : ¬ k = 12 := fun h => absurd ((nI_eq (by omega) (by omega)).mpr h) c_75
                refine lv_iconst (v := 0) hx hb dX4_goes_88 (by decide) ?_
                exact m_zret C w dX4_goes_89 (by omega) (by omega) (by first | exact Or.inl rfl | exact Or.inr rfl | exact bI_or _) (⟨by
                  have hsp : pN x = pz := by rw [ex]; exact lN_pN (by omega)
                  have hxn : ¬ x < 0 := Int64.not_lt.mpr n_24
                  unfold gs
                  rw [hn45, hsp, if_neg (by rw [not_or]; exact ⟨n_18, hxn⟩)]
                  simp_all [bI], rfl⟩)
              · skip
                have n_75 : k = 12 := (nI_eq (by omega) (by omega)).mp (by first | exact c_75 | exact Classical.not_not.mp c_75)
                refine lv_iload hx hb dX4_goes_78 (lv_at hl 0 rfl) ?_
                refine lv_iconst (v := 3) hx hb dX4_goes_80 (by decide) ?_
                refine lv_icmp_lt (tgt := 88) hx hb dX4_goes_81 (by decide) (fun c_81 => ?_) (fun c_81 => ?_)
                · skip
                  have n_81 : (sS S pz) < 3 := (nI_ltI (by omega) (by omega)).mp c_81
                  refine lv_iconst (v := 0) hx hb dX4_goes_88 (by decide) ?_
                  exact m_zret C w dX4_goes_89 (by omega) (by omega) (by first | exact Or.inl rfl | exact Or.inr rfl | exact bI_or _) (⟨by
                    have hsp : pN x = pz := by rw [ex]; exact lN_pN (by omega)
                    have hxn : ¬ x < 0 := Int64.not_lt.mpr n_24
                    unfold gs
                    rw [hn45, hsp, if_neg (by rw [not_or]; exact ⟨n_18, hxn⟩)]
                    simp_all [bI], rfl⟩)
                · skip
                  have n_81 : ¬ (sS S pz) < 3 := fun h => absurd ((nI_ltI (by omega) (by omega)).mpr h) c_81
                  refine lv_iconst (v := 1) hx hb dX4_goes_84 (by decide) ?_
                  refine lv_goto (tgt := 89) hx hb dX4_goes_85 (by decide) ?_
                  exact m_zret C w dX4_goes_89 (by omega) (by omega) (by first | exact Or.inl rfl | exact Or.inr rfl | exact bI_or _) (⟨by
                    have hsp : pN x = pz := by rw [ex]; exact lN_pN (by omega)
                    have hxn : ¬ x < 0 := Int64.not_lt.mpr n_24
                    unfold gs
                    rw [hn45, hsp, if_neg (by rw [not_or]; exact ⟨n_18, hxn⟩)]
                    simp_all [bI], rfl⟩)
            · skip
              have n_63 : k = 11 := (nI_eq (by omega) (by omega)).mp (by first | exact c_63 | exact Classical.not_not.mp c_63)
              refine lv_iload hx hb dX4_goes_66 (lv_at hl 0 rfl) ?_
              refine lv_iconst (v := 2) hx hb dX4_goes_68 (by decide) ?_
              refine lv_icmp_eq (tgt := 84) hx hb dX4_goes_69 (by decide) (fun c_69 => ?_) (fun c_69 => ?_)
              · skip
                have n_69 : (sS S pz) = 2 := (nI_eq (by omega) (by omega)).mp (by first | exact c_69 | exact Classical.not_not.mp c_69)
                refine lv_iconst (v := 1) hx hb dX4_goes_84 (by decide) ?_
                refine lv_goto (tgt := 89) hx hb dX4_goes_85 (by decide) ?_
                exact m_zret C w dX4_goes_89 (by omega) (by omega) (by first | exact Or.inl rfl | exact Or.inr rfl | exact bI_or _) (⟨by
                  have hsp : pN x = pz := by rw [ex]; exact lN_pN (by omega)
                  have hxn : ¬ x < 0 := Int64.not_lt.mpr n_24
                  unfold gs
                  rw [hn45, hsp, if_neg (by rw [not_or]; exact ⟨n_18, hxn⟩)]
                  simp_all [bI], rfl⟩)
              · skip
                have n_69 : ¬ (sS S pz) = 2 := fun h => absurd ((nI_eq (by omega) (by omega)).mpr h) c_69
                refine lv_iload_n hx hb dX4_goes_72 rfl (lv_at hl 2 rfl) ?_
                refine lv_bipush (v := 12) hx hb dX4_goes_73 (by decide) ?_
                refine lv_icmp_ne (tgt := 88) hx hb dX4_goes_75 (by decide) (fun c_75 => ?_) (fun c_75 => ?_)
                · skip
                  have n_75 : ¬ k = 12 := fun h => absurd ((nI_eq (by omega) (by omega)).mpr h) c_75
                  refine lv_iconst (v := 0) hx hb dX4_goes_88 (by decide) ?_
                  exact m_zret C w dX4_goes_89 (by omega) (by omega) (by first | exact Or.inl rfl | exact Or.inr rfl | exact bI_or _) (⟨by
                    have hsp : pN x = pz := by rw [ex]; exact lN_pN (by omega)
                    have hxn : ¬ x < 0 := Int64.not_lt.mpr n_24
                    unfold gs
                    rw [hn45, hsp, if_neg (by rw [not_or]; exact ⟨n_18, hxn⟩)]
                    simp_all [bI], rfl⟩)
                · skip
                  have n_75 : k = 12 := (nI_eq (by omega) (by omega)).mp (by first | exact c_75 | exact Classical.not_not.mp c_75)
                  refine lv_iload hx hb dX4_goes_78 (lv_at hl 0 rfl) ?_
                  refine lv_iconst (v := 3) hx hb dX4_goes_80 (by decide) ?_
                  refine lv_icmp_lt (tgt := 88) hx hb dX4_goes_81 (by decide) (fun c_81 => ?_) (fun c_81 => ?_)
                  · skip
                    have n_81 : (sS S pz) < 3 := (nI_ltI (by omega) (by omega)).mp c_81
                    refine lv_iconst (v := 0) hx hb dX4_goes_88 (by decide) ?_
                    exact m_zret C w dX4_goes_89 (by omega) (by omega) (by first | exact Or.inl rfl | exact Or.inr rfl | exact bI_or _) (⟨by
                      have hsp : pN x = pz := by rw [ex]; exact lN_pN (by omega)
                      have hxn : ¬ x < 0 := Int64.not_lt.mpr n_24
                      unfold gs
                      rw [hn45, hsp, if_neg (by rw [not_or]; exact ⟨n_18, hxn⟩)]
                      simp_all [bI], rfl⟩)
                  · skip
                    have n_81 : ¬ (sS S pz) < 3 := fun h => absurd ((nI_ltI (by omega) (by omega)).mpr h) c_81
                    refine lv_iconst (v := 1) hx hb dX4_goes_84 (by decide) ?_
                    refine lv_goto (tgt := 89) hx hb dX4_goes_85 (by decide) ?_
                    exact m_zret C w dX4_goes_89 (by omega) (by omega) (by first | exact Or.inl rfl | exact Or.inr rfl | exact bI_or _) (⟨by
                      have hsp : pN x = pz := by rw [ex]; exact lN_pN (by omega)
                      have hxn : ¬ x < 0 := Int64.not_lt.mpr n_24
                      unfold gs
                      rw [hn45, hsp, if_neg (by rw [not_or]; exact ⟨n_18, hxn⟩)]
                      simp_all [bI], rfl⟩)
        · skip
          have n_24 := (not_congr (lg_cmp_ge _ _)).mp c_24
          refine lv_iload_n hx hb dX4_goes_27 rfl (lv_at hl 1 rfl) ?_
          refine lv_bipush (v := 13) hx hb dX4_goes_28 (by decide) ?_
          refine lv_icmp_ne (tgt := 43) hx hb dX4_goes_30 (by decide) (fun c_30 => ?_) (fun c_30 => ?_)
          · skip
            have n_30 : ¬ k = 13 := fun h => absurd ((nI_eq (by omega) (by omega)).mpr h) c_30
            refine lv_iconst (v := 0) hx hb dX4_goes_43 (by decide) ?_
            exact m_zret C w dX4_goes_44 (by omega) (by omega) (by first | exact Or.inl rfl | exact Or.inr rfl | exact bI_or _) (⟨by
              unfold gs
              rw [n_4, if_pos (Or.inr (Int64.not_le.mp n_24))]
              simp_all [bI], rfl⟩)
          · skip
            have n_30 : k = 13 := (nI_eq (by omega) (by omega)).mp (by first | exact c_30 | exact Classical.not_not.mp c_30)
            refine lv_lload_n hx hb dX4_goes_33 rfl (lv_at hl 2 rfl) ?_
            refine lv_lconst (v := 0) hx hb dX4_goes_34 (by decide) ?_
            refine W.lcmp hx hb dX4_goes_35 ?_
            refine lv_if_ge (tgt := 43) hx hb dX4_goes_36 (by decide) (fun c_36 => ?_) (fun c_36 => ?_)
            · skip
              have n_36 := (lg_cmp_ge _ _).mp c_36
              refine lv_iconst (v := 0) hx hb dX4_goes_43 (by decide) ?_
              exact m_zret C w dX4_goes_44 (by omega) (by omega) (by first | exact Or.inl rfl | exact Or.inr rfl | exact bI_or _) (⟨by
                unfold gs
                rw [n_4, if_pos (Or.inr (Int64.not_le.mp n_24))]
                simp_all [bI], rfl⟩)
            · skip
              have n_36 := (not_congr (lg_cmp_ge _ _)).mp c_36
              refine lv_iconst (v := 1) hx hb dX4_goes_39 (by decide) ?_
              refine lv_goto (tgt := 44) hx hb dX4_goes_40 (by decide) ?_
              exact m_zret C w dX4_goes_44 (by omega) (by omega) (by first | exact Or.inl rfl | exact Or.inr rfl | exact bI_or _) (⟨by
                unfold gs
                rw [n_4, if_pos (Or.inr (Int64.not_le.mp n_24))]
                simp_all [bI], rfl⟩)
    · skip
      have n_10 := (lg_cmp_eq _ _).mp c_10
      refine lv_iconst (v := 1) hx hb dX4_goes_13 (by decide) ?_
      exact m_zret C w dX4_goes_14 (by omega) (by omega) (by first | exact Or.inl rfl | exact Or.inr rfl | exact bI_or _) (⟨by unfold gs; simp_all [bI], rfl⟩)
