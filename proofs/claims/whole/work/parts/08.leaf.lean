set_option maxRecDepth 100000 in
set_option maxHeartbeats 4000000 in
/-- Thing(): nothing -/
theorem c_Thing_init (l : Launch) (D : va_G) (y : mY) (S0 : Nat) (M F : mp) (h : Nat) : ct l yX2_init wsX2_init 1 12 0 0 D y S0 M F [.ref h] (fun v M' => v = none ∧ M' = M) := by
  refine ct_of cX2_init 1 none [(0, .ref h)] (by decide +kernel) rfl (Nat.le_of_ble_eq_true rfl) rfl ?_
  intro p e s m below meth c ls C hnm hl w
  have hx := C.1
  have hb := C.2.1
  refine lv_aload_n hx hb dX2_init_0 rfl (lv_at hl 0 rfl) ?_
  refine W.objInit hx hb C.2.2.2.1 (C.2.2.2.2.1 (.methodLink RX2 1 objectInit) (by decide +kernel)) (C.2.2.2.2.1 (.instanceMethod objectInit) (by decide +kernel)) (C.2.2.2.2.1 _ (by unfold wsX2_init; exact List.mem_of_getElem? (i := 3) rfl)) rfl (by rw [C.2.2.1]; exact hl.1) rfl dX2_init_1 (Nat.le_of_ble_eq_true rfl) (Nat.le_of_ble_eq_true rfl) ?_
  refine W.eq (g2 := F0 m 4 ls []) rfl ?_
  exact m_vret C w dX2_init_4 (by omega) (by omega) (⟨rfl, rfl⟩)
set_option maxRecDepth 100000 in
set_option maxHeartbeats 4000000 in
/-- a row's sort: 6 -/
theorem c_Hold_sort (l : Launch) (D : va_G) (y : mY) (S0 : Nat) (M F : mp) (h : Nat) : ct l yX0_sortOfThing wsX0_sortOfThing 0 0 0 0 D y S0 M F [.ref h] (fun v M' => v = some (.int 6) ∧ M' = M) := by
  refine ct_of cX0_sortOfThing 1 (some .int) [(0, .ref h)] (by decide +kernel) rfl (Nat.le_of_ble_eq_true rfl) rfl ?_
  intro p e s m below meth c ls C hnm hl w
  have hx := C.1
  have hb := C.2.1
  refine lv_bipush (v := 6) hx hb dX0_sortOfThing_0 (by decide) ?_
  exact m_iret C w dX0_sortOfThing_2 (by omega) (by omega) (⟨rfl, rfl⟩)
set_option maxRecDepth 100000 in
set_option maxHeartbeats 4000000 in
theorem c_Hold_count (l : Launch) (D : va_G) (y : mY) (S0 : Nat) (M F : mp) (h k n : Nat) (t : Int32) (na ta : Nat) (hh : M h = some (eO 0 (hF k n t na ta))) (hk : k < 14) (hn : n ≤ 64) : ct l yX0_count wsX0_count 0 0 0 0 D y S0 M F [.ref h] (fun v M' => v = some (.int (nI n)) ∧ M' = M) := by
  refine ct_of cX0_count 1 (some .int) [(0, .ref h)] (by decide +kernel) rfl (Nat.le_of_ble_eq_true rfl) rfl ?_
  intro p e s m below meth c ls C hnm hl w
  have hx := C.1
  have hb := C.2.1
  have hi_X0 : ∀ w ∈ u_ws RX0 TX0 5, w ∈ wsX0_count := by decide +kernel
  refine lv_aload_n hx hb dX0_count_0 rfl (lv_at hl 0 rfl) ?_
  refine m_get C w hh (index := 15) (T := TX0) (N := 5) rfl hi_X0 1 (by decide) (by decide +kernel) rfl dX0_count_1 ?_
  exact m_iret C w dX0_count_4 (by omega) (by omega) (⟨rfl, rfl⟩)
set_option maxRecDepth 100000 in
set_option maxHeartbeats 4000000 in
theorem c_Hold_refusal (l : Launch) (D : va_G) (y : mY) (S0 : Nat) (M F : mp) (h k n : Nat) (t : Int32) (na ta : Nat) (hh : M h = some (eO 0 (hF k n t na ta))) (hk : k < 14) (hn : n ≤ 64) : ct l yX0_refusal wsX0_refusal 0 0 0 0 D y S0 M F [.ref h] (fun v M' => v = some (.int (fR k)) ∧ M' = M) := by
  refine ct_of cX0_refusal 1 (some .int) [(0, .ref h)] (by decide +kernel) rfl (Nat.le_of_ble_eq_true rfl) rfl ?_
  intro p e s m below meth c ls C hnm hl w
  have hx := C.1
  have hb := C.2.1
  have hi_X0 : ∀ w ∈ u_ws RX0 TX0 5, w ∈ wsX0_refusal := by decide +kernel
  refine lv_aload_n hx hb dX0_refusal_0 rfl (lv_at hl 0 rfl) ?_
  refine m_get C w hh (index := 9) (T := TX0) (N := 5) rfl hi_X0 0 (by decide) (by decide +kernel) rfl dX0_refusal_1 ?_
  refine lv_if_ne (tgt := 9) hx hb dX0_refusal_4 (by decide) (fun c_4 => ?_) (fun c_4 => ?_)
  · skip
    have n_4 : ¬ k = 0 := fun h => absurd ((nI_eq (by omega) (by omega)).mpr h) c_4
    refine lv_aload_n hx hb dX0_refusal_9 rfl (lv_at hl 0 rfl) ?_
    refine m_get C w hh (index := 9) (T := TX0) (N := 5) rfl hi_X0 0 (by decide) (by decide +kernel) rfl dX0_refusal_10 ?_
    refine lv_iconst (v := 1) hx hb dX0_refusal_13 (by decide) ?_
    refine lv_icmp_ne (tgt := 22) hx hb dX0_refusal_14 (by decide) (fun c_14 => ?_) (fun c_14 => ?_)
    · skip
      have n_14 : ¬ k = 1 := fun h => absurd ((nI_eq (by omega) (by omega)).mpr h) c_14
      refine lv_iconst (v := 0) hx hb dX0_refusal_22 (by decide) ?_
      exact m_iret C w dX0_refusal_23 (by omega) (by omega) (⟨by unfold fR; simp_all, rfl⟩)
    · skip
      have n_14 : k = 1 := (nI_eq (by omega) (by omega)).mp (by first | exact c_14 | exact Classical.not_not.mp c_14)
      refine lv_bipush (v := (-2)) hx hb dX0_refusal_17 (by decide) ?_
      refine lv_goto (tgt := 23) hx hb dX0_refusal_19 (by decide) ?_
      exact m_iret C w dX0_refusal_23 (by omega) (by omega) (⟨by unfold fR; simp_all, rfl⟩)
  · skip
    have n_4 : k = 0 := (nI_eq (by omega) (by omega)).mp (by first | exact c_4 | exact Classical.not_not.mp c_4)
    refine lv_iconst (v := (-1)) hx hb dX0_refusal_7 (by decide) ?_
    exact m_iret C w dX0_refusal_8 (by omega) (by omega) (⟨by unfold fR; simp_all, rfl⟩)
set_option maxRecDepth 100000 in
set_option maxHeartbeats 4000000 in
theorem c_Hold_isN (l : Launch) (D : va_G) (y : mY) (S0 : Nat) (M F : mp) (h k n : Nat) (t : Int32) (na ta : Nat) (hh : M h = some (eO 0 (hF k n t na ta))) (hk : k < 14) (hn : n ≤ 64) : ct l yX0_isOfNumbers wsX0_isOfNumbers 0 0 0 0 D y S0 M F [.ref h] (fun v M' => v = some (.int (bI (isN k))) ∧ M' = M) := by
  refine ct_of cX0_isOfNumbers 1 (some .boolean) [(0, .ref h)] (by decide +kernel) rfl (Nat.le_of_ble_eq_true rfl) rfl ?_
  intro p e s m below meth c ls C hnm hl w
  have hx := C.1
  have hb := C.2.1
  have hi_X0 : ∀ w ∈ u_ws RX0 TX0 5, w ∈ wsX0_isOfNumbers := by decide +kernel
  refine lv_aload_n hx hb dX0_isOfNumbers_0 rfl (lv_at hl 0 rfl) ?_
  refine m_get C w hh (index := 9) (T := TX0) (N := 5) rfl hi_X0 0 (by decide) (by decide +kernel) rfl dX0_isOfNumbers_1 ?_
  refine lv_iconst (v := 2) hx hb dX0_isOfNumbers_4 (by decide) ?_
  refine lv_icmp_lt (tgt := 21) hx hb dX0_isOfNumbers_5 (by decide) (fun c_5 => ?_) (fun c_5 => ?_)
  · skip
    have n_5 : k < 2 := (nI_ltI (by omega) (by omega)).mp c_5
    refine lv_iconst (v := 0) hx hb dX0_isOfNumbers_21 (by decide) ?_
    exact m_zret C w dX0_isOfNumbers_22 (by omega) (by omega) (by first | exact Or.inl rfl | exact Or.inr rfl) (⟨by unfold isN; simp_all [bI]; try omega, rfl⟩)
  · skip
    have n_5 : ¬ k < 2 := fun h => absurd ((nI_ltI (by omega) (by omega)).mpr h) c_5
    refine lv_aload_n hx hb dX0_isOfNumbers_8 rfl (lv_at hl 0 rfl) ?_
    refine m_get C w hh (index := 9) (T := TX0) (N := 5) rfl hi_X0 0 (by decide) (by decide +kernel) rfl dX0_isOfNumbers_9 ?_
    refine lv_bipush (v := 9) hx hb dX0_isOfNumbers_12 (by decide) ?_
    refine lv_icmp_gt (tgt := 21) hx hb dX0_isOfNumbers_14 (by decide) (fun c_14 => ?_) (fun c_14 => ?_)
    · skip
      have n_14 : 9 < k := (nI_ltI (by omega) (by omega)).mp c_14
      refine lv_iconst (v := 0) hx hb dX0_isOfNumbers_21 (by decide) ?_
      exact m_zret C w dX0_isOfNumbers_22 (by omega) (by omega) (by first | exact Or.inl rfl | exact Or.inr rfl) (⟨by unfold isN; simp_all [bI]; try omega, rfl⟩)
    · skip
      have n_14 : ¬ 9 < k := fun h => absurd ((nI_ltI (by omega) (by omega)).mpr h) c_14
      refine lv_iconst (v := 1) hx hb dX0_isOfNumbers_17 (by decide) ?_
      refine lv_goto (tgt := 22) hx hb dX0_isOfNumbers_18 (by decide) ?_
      exact m_zret C w dX0_isOfNumbers_22 (by omega) (by omega) (by first | exact Or.inl rfl | exact Or.inr rfl) (⟨by unfold isN; simp_all [bI]; try omega, rfl⟩)
set_option maxRecDepth 100000 in
set_option maxHeartbeats 4000000 in
theorem c_Hold_hasPlace (l : Launch) (D : va_G) (y : mY) (S0 : Nat) (M F : mp) (h k n : Nat) (t : Int32) (na ta : Nat) (hh : M h = some (eO 0 (hF k n t na ta))) (hk : k < 14) (hn : n ≤ 64) (i : Int32) : ct l yX0_hasPlace wsX0_hasPlace 0 0 0 0 D y S0 M F [.ref h, .int i] (fun v M' => v = some (.int (bI (inP i n))) ∧ M' = M) := by
  refine ct_of cX0_hasPlace 2 (some .boolean) [(0, .ref h), (1, .int i)] (by decide +kernel) rfl (Nat.le_of_ble_eq_true rfl) rfl ?_
  intro p e s m below meth c ls C hnm hl w
  have hx := C.1
  have hb := C.2.1
  have hi_X0 : ∀ w ∈ u_ws RX0 TX0 5, w ∈ wsX0_hasPlace := by decide +kernel
  refine lv_iload_n hx hb dX0_hasPlace_0 rfl (lv_at hl 1 rfl) ?_
  refine lv_if_lt (tgt := 16) hx hb dX0_hasPlace_1 (by decide) (fun c_1 => ?_) (fun c_1 => ?_)
  · skip
    refine lv_iconst (v := 0) hx hb dX0_hasPlace_16 (by decide) ?_
    exact m_zret C w dX0_hasPlace_17 (by omega) (by omega) (by first | exact Or.inl rfl | exact Or.inr rfl) (⟨by unfold inP; simp_all [bI], rfl⟩)
  · skip
    refine lv_iload_n hx hb dX0_hasPlace_4 rfl (lv_at hl 1 rfl) ?_
    refine lv_aload_n hx hb dX0_hasPlace_5 rfl (lv_at hl 0 rfl) ?_
    refine m_get C w hh (index := 15) (T := TX0) (N := 5) rfl hi_X0 1 (by decide) (by decide +kernel) rfl dX0_hasPlace_6 ?_
    refine lv_icmp_ge (tgt := 16) hx hb dX0_hasPlace_9 (by decide) (fun c_9 => ?_) (fun c_9 => ?_)
    · skip
      refine lv_iconst (v := 0) hx hb dX0_hasPlace_16 (by decide) ?_
      exact m_zret C w dX0_hasPlace_17 (by omega) (by omega) (by first | exact Or.inl rfl | exact Or.inr rfl) (⟨by unfold inP; simp_all [bI], rfl⟩)
    · skip
      refine lv_iconst (v := 1) hx hb dX0_hasPlace_12 (by decide) ?_
      refine lv_goto (tgt := 17) hx hb dX0_hasPlace_13 (by decide) ?_
      exact m_zret C w dX0_hasPlace_17 (by omega) (by omega) (by first | exact Or.inl rfl | exact Or.inr rfl) (⟨by unfold inP; simp_all [bI], rfl⟩)
set_option maxRecDepth 100000 in
set_option maxHeartbeats 4000000 in
theorem c_Hold_hasPlaces (l : Launch) (D : va_G) (y : mY) (S0 : Nat) (M F : mp) (h k n : Nat) (t : Int32) (na ta : Nat) (hh : M h = some (eO 0 (hF k n t na ta))) (hk : k < 14) (hn : n ≤ 64) (i j : Int32) : ct l yX0_hasPlaces wsX0_hasPlaces 0 0 0 0 D y S0 M F [.ref h, .int i, .int j] (fun v M' => v = some (.int (bI (hpl i j n))) ∧ M' = M) := by
  refine ct_of cX0_hasPlaces 3 (some .boolean) [(0, .ref h), (1, .int i), (2, .int j)] (by decide +kernel) rfl (Nat.le_of_ble_eq_true rfl) rfl ?_
  intro p e s m below meth c ls C hnm hl w
  have hx := C.1
  have hb := C.2.1
  have hi_X0 : ∀ w ∈ u_ws RX0 TX0 5, w ∈ wsX0_hasPlaces := by decide +kernel
  refine lv_iload_n hx hb dX0_hasPlaces_0 rfl (lv_at hl 1 rfl) ?_
  refine lv_if_lt (tgt := 26) hx hb dX0_hasPlaces_1 (by decide) (fun c_1 => ?_) (fun c_1 => ?_)
  · skip
    refine lv_iconst (v := 0) hx hb dX0_hasPlaces_26 (by decide) ?_
    exact m_zret C w dX0_hasPlaces_27 (by omega) (by omega) (by first | exact Or.inl rfl | exact Or.inr rfl) (⟨by unfold hpl; simp_all [bI], rfl⟩)
  · skip
    refine lv_iload_n hx hb dX0_hasPlaces_4 rfl (lv_at hl 2 rfl) ?_
    refine lv_if_lt (tgt := 26) hx hb dX0_hasPlaces_5 (by decide) (fun c_5 => ?_) (fun c_5 => ?_)
    · skip
      refine lv_iconst (v := 0) hx hb dX0_hasPlaces_26 (by decide) ?_
      exact m_zret C w dX0_hasPlaces_27 (by omega) (by omega) (by first | exact Or.inl rfl | exact Or.inr rfl) (⟨by unfold hpl; simp_all [bI], rfl⟩)
    · skip
      refine lv_iload_n hx hb dX0_hasPlaces_8 rfl (lv_at hl 1 rfl) ?_
      refine lv_i2l hx hb dX0_hasPlaces_9 rfl ?_
      refine lv_iload_n hx hb dX0_hasPlaces_10 rfl (lv_at hl 2 rfl) ?_
      refine lv_i2l hx hb dX0_hasPlaces_11 rfl ?_
      refine lv_ladd hx hb dX0_hasPlaces_12 ?_
      refine lv_aload_n hx hb dX0_hasPlaces_13 rfl (lv_at hl 0 rfl) ?_
      refine m_get C w hh (index := 15) (T := TX0) (N := 5) rfl hi_X0 1 (by decide) (by decide +kernel) rfl dX0_hasPlaces_14 ?_
      refine lv_i2l (v := lN n) hx hb dX0_hasPlaces_17 (nI_l (by omega)) ?_
      refine W.lcmp hx hb dX0_hasPlaces_18 ?_
      refine lv_if_gt (tgt := 26) hx hb dX0_hasPlaces_19 (by decide) (fun c_19 => ?_) (fun c_19 => ?_)
      · skip
        have n_19 := (lg_cmp_gt _ _).mp c_19
        refine lv_iconst (v := 0) hx hb dX0_hasPlaces_26 (by decide) ?_
        exact m_zret C w dX0_hasPlaces_27 (by omega) (by omega) (by first | exact Or.inl rfl | exact Or.inr rfl) (⟨by unfold hpl; simp_all [bI], rfl⟩)
      · skip
        have n_19 := (not_congr (lg_cmp_gt _ _)).mp c_19
        refine lv_iconst (v := 1) hx hb dX0_hasPlaces_22 (by decide) ?_
        refine lv_goto (tgt := 27) hx hb dX0_hasPlaces_23 (by decide) ?_
        exact m_zret C w dX0_hasPlaces_27 (by omega) (by omega) (by first | exact Or.inl rfl | exact Or.inr rfl) (⟨by unfold hpl; simp_all [bI], rfl⟩)
set_option maxRecDepth 100000 in
set_option maxHeartbeats 4000000 in
theorem c_Piece_sort (l : Launch) (D : va_G) (y : mY) (S0 : Nat) (M F : mp) (h : Nat) (sv nv gv : Int32) (hh : M h = some (eO 1 [.int sv, .int nv, .int gv])) : ct l yX1_sortOfThing wsX1_sortOfThing 0 0 0 0 D y S0 M F [.ref h] (fun v M' => v = some (.int sv) ∧ M' = M) := by
  refine ct_of cX1_sortOfThing 1 (some .int) [(0, .ref h)] (by decide +kernel) rfl (Nat.le_of_ble_eq_true rfl) rfl ?_
  intro p e s m below meth c ls C hnm hl w
  have hx := C.1
  have hb := C.2.1
  have hi_X1 : ∀ w ∈ u_ws RX1 TX1 3, w ∈ wsX1_sortOfThing := by decide +kernel
  refine lv_aload_n hx hb dX1_sortOfThing_0 rfl (lv_at hl 0 rfl) ?_
  refine m_get C w hh (index := 7) (T := TX1) (N := 3) rfl hi_X1 0 (by decide) (by decide +kernel) rfl dX1_sortOfThing_1 ?_
  exact m_iret C w dX1_sortOfThing_4 (by omega) (by omega) (⟨rfl, rfl⟩)
set_option maxRecDepth 100000 in
set_option maxHeartbeats 4000000 in
theorem c_Piece_count (l : Launch) (D : va_G) (y : mY) (S0 : Nat) (M F : mp) (h : Nat) (sv nv gv : Int32) (hh : M h = some (eO 1 [.int sv, .int nv, .int gv])) : ct l yX1_count wsX1_count 0 0 0 0 D y S0 M F [.ref h] (fun v M' => v = some (.int nv) ∧ M' = M) := by
  refine ct_of cX1_count 1 (some .int) [(0, .ref h)] (by decide +kernel) rfl (Nat.le_of_ble_eq_true rfl) rfl ?_
  intro p e s m below meth c ls C hnm hl w
  have hx := C.1
  have hb := C.2.1
  have hi_X1 : ∀ w ∈ u_ws RX1 TX1 3, w ∈ wsX1_count := by decide +kernel
  refine lv_aload_n hx hb dX1_count_0 rfl (lv_at hl 0 rfl) ?_
  refine m_get C w hh (index := 13) (T := TX1) (N := 3) rfl hi_X1 1 (by decide) (by decide +kernel) rfl dX1_count_1 ?_
  exact m_iret C w dX1_count_4 (by omega) (by omega) (⟨rfl, rfl⟩)
set_option maxRecDepth 100000 in
set_option maxHeartbeats 4000000 in
theorem c_Piece_shine (l : Launch) (D : va_G) (y : mY) (S0 : Nat) (M F : mp) (h : Nat) (sv nv gv : Int32) (hh : M h = some (eO 1 [.int sv, .int nv, .int gv])) : ct l yX1_shine wsX1_shine 0 0 0 0 D y S0 M F [.ref h] (fun v M' => v = some (.int gv) ∧ M' = M) := by
  refine ct_of cX1_shine 1 (some .int) [(0, .ref h)] (by decide +kernel) rfl (Nat.le_of_ble_eq_true rfl) rfl ?_
  intro p e s m below meth c ls C hnm hl w
  have hx := C.1
  have hb := C.2.1
  have hi_X1 : ∀ w ∈ u_ws RX1 TX1 3, w ∈ wsX1_shine := by decide +kernel
  refine lv_aload_n hx hb dX1_shine_0 rfl (lv_at hl 0 rfl) ?_
  refine m_get C w hh (index := 16) (T := TX1) (N := 3) rfl hi_X1 2 (by decide) (by decide +kernel) rfl dX1_shine_1 ?_
  exact m_iret C w dX1_shine_4 (by omega) (by omega) (⟨rfl, rfl⟩)
set_option maxRecDepth 100000 in
set_option maxHeartbeats 4000000 in
theorem c_Piece_init (l : Launch) (D : va_G) (y : mY) (S0 : Nat) (M F : mp) (h : Nat) (sv nv gv : Int32) (hh : M h = some (eO 1 [.int sv, .int nv, .int gv])) (a b : Int32) : ct l yX1_init wsX1_init 2 40 0 0 D y S0 M F [.ref h, .int a, .int b] (fun v M' => v = none ∧ M' = mu M h (eO 1 [.int a, .int b, .int 0])) := by
  refine ct_of cX1_init 3 none [(0, .ref h), (1, .int a), (2, .int b)] (by decide +kernel) rfl (Nat.le_of_ble_eq_true rfl) rfl ?_
  intro p e s m below meth c ls C hnm hl w
  have hx := C.1
  have hb := C.2.1
  have hi_X1 : ∀ w ∈ u_ws RX1 TX1 3, w ∈ wsX1_init := by decide +kernel
  refine lv_aload_n hx hb dX1_init_0 rfl (lv_at hl 0 rfl) ?_
  refine m_callIN (host := "BeadBench") C w hl.1 (As := []) (rest := []) (c_Thing_init l D y S0 M F h) gX1_init_X2_init_n1 rfl (by decide +kernel) (by decide +kernel) (by decide +kernel) rfl (by decide +kernel) ⟨Nat.le_of_ble_eq_true rfl, Nat.le_of_ble_eq_true rfl⟩ rfl (by decide) dX1_init_1 ⟨by omega, by omega⟩ (fun v M1 H locs hq w => ?_)
  obtain ⟨rfl, hM1⟩ := hq
  rw [hM1] at w
  clear hM1 M1
  refine W.eq (g2 := F0 m 4 ls []) rfl ?_
  refine lv_aload_n hx hb dX1_init_4 rfl (lv_at hl 0 rfl) ?_
  refine lv_iload_n hx hb dX1_init_5 rfl (lv_at hl 1 rfl) ?_
  refine m_putF C w hh (v := .int a) (index := 7) (T := TX1) (N := 3) rfl hi_X1 tyX1 tyX1_ok nmX1 0 (by decide) (by decide +kernel) rfl hnm rfl (tyX1_ok 0 (by decide)) rfl rfl (Nat.le_of_ble_eq_true rfl) dX1_init_6 (fun H locs w => ?_)
  obtain ⟨M1, e_M1⟩ : ∃ z, z = mu M h (eO 1 [.int a, .int nv, .int gv]) := ⟨_, rfl⟩
  have w : mS D S0 M1 F s H locs := by rw [e_M1]; exact w
  have f1_h : M1 h = some (eO 1 [.int a, .int nv, .int gv]) := by rw [e_M1]; exact mu_s
  refine lv_aload_n hx hb dX1_init_9 rfl (lv_at hl 0 rfl) ?_
  refine lv_iload_n hx hb dX1_init_10 rfl (lv_at hl 2 rfl) ?_
  refine m_putF C w f1_h (v := .int b) (index := 13) (T := TX1) (N := 3) rfl hi_X1 tyX1 tyX1_ok nmX1 1 (by decide) (by decide +kernel) rfl hnm rfl (tyX1_ok 1 (by decide)) rfl rfl (Nat.le_of_ble_eq_true rfl) dX1_init_11 (fun H locs w => ?_)
  obtain ⟨M2, e_M2⟩ : ∃ z, z = mu M1 h (eO 1 [.int a, .int b, .int gv]) := ⟨_, rfl⟩
  have w : mS D S0 M2 F s H locs := by rw [e_M2]; exact w
  have f2_h : M2 h = some (eO 1 [.int a, .int b, .int gv]) := by rw [e_M2]; exact mu_s
  refine lv_aload_n hx hb dX1_init_14 rfl (lv_at hl 0 rfl) ?_
  refine lv_iconst (v := 0) hx hb dX1_init_15 (by decide) ?_
  refine m_put C w f2_h (v := .int 0) (index := 16) (T := TX1) (N := 3) rfl hi_X1 tyX1 tyX1_ok nmX1 2 (by decide) (by decide +kernel) rfl (tyX1_ok 2 (by decide)) rfl rfl (Nat.le_of_ble_eq_true rfl) dX1_init_16 (fun H locs w => ?_)
  obtain ⟨M3, e_M3⟩ : ∃ z, z = mu M2 h (eO 1 [.int a, .int b, .int 0]) := ⟨_, rfl⟩
  have w : mS D S0 M3 F s H locs := by rw [e_M3]; exact w
  have f3_h : M3 h = some (eO 1 [.int a, .int b, .int 0]) := by rw [e_M3]; exact mu_s
  exact m_vret C w dX1_init_19 (by omega) (by omega) (⟨rfl, by rw [e_M3, e_M2, e_M1]; funext q; unfold mu; by_cases hq : q = h <;> simp [hq]⟩)
set_option maxRecDepth 100000 in
set_option maxHeartbeats 4000000 in
/-- copyPlace: place i gets what is at place j of the other one -/
theorem c_Hold_copy (l : Launch) (D : va_G) (y : mY) (S0 : Nat) (M F : mp) (h : Nat) (k n : Nat) (t : Int32) (na ta : Nat) (hh : M h = some (eO 0 (hF k n t na ta))) (h2 k2 n2 : Nat) (t2 : Int32) (na2 ta2 : Nat) (hh2 : M h2 = some (eO 0 (hF k2 n2 t2 na2 ta2))) (f f2 : Nat → Int64) (g g2 : Nat → Option Nat) (hna : M na = some (eL y n f)) (hta : M ta = some (eT y n g)) (hna2 : M na2 = some (eL y n2 f2)) (hta2 : M ta2 = some (eT y n2 g2)) (i j : Nat) (hi : i < n) (hj : j < n2) (hn : n ≤ 64) (hn2 : n2 ≤ 64) (hth : ∀ z, g2 j = some z → (∃ vs, M z = some (eO 0 vs)) ∨ ∃ vs, M z = some (eO 1 vs)) : ct l yX0_copyPlace wsX0_copyPlace 0 0 0 0 D y S0 M F [.ref h, .int (nI i), .ref h2, .int (nI j)] (fun v M' => v = none ∧ M' = mu (mu M na (eL y n (va_up f i (f2 j)))) ta (eT y n (va_up g i (g2 j)))) := by
  refine ct_of cX0_copyPlace 4 none [(0, .ref h), (1, .int (nI i)), (2, .ref h2), (3, .int (nI j))] (by decide +kernel) rfl (Nat.le_of_ble_eq_true rfl) rfl ?_
  intro p e s m below meth c ls C hnm hl w
  have hx := C.1
  have hb := C.2.1
  have hi_X0 : ∀ w ∈ u_ws RX0 TX0 5, w ∈ wsX0_copyPlace := by decide +kernel
  refine lv_aload_n hx hb dX0_copyPlace_0 rfl (lv_at hl 0 rfl) ?_
  refine m_get C w hh (index := 21) (T := TX0) (N := 5) rfl hi_X0 3 (by decide) (by decide +kernel) rfl dX0_copyPlace_1 ?_
  refine lv_iload_n hx hb dX0_copyPlace_4 rfl (lv_at hl 1 rfl) ?_
  refine lv_aload_n hx hb dX0_copyPlace_5 rfl (lv_at hl 2 rfl) ?_
  refine m_get C w hh2 (index := 21) (T := TX0) (N := 5) rfl hi_X0 3 (by decide) (by decide +kernel) rfl dX0_copyPlace_6 ?_
  refine lv_iload_n hx hb dX0_copyPlace_9 rfl (lv_at hl 3 rfl) ?_
  refine m_lald C w hna2 j rfl (by omega) (by omega) dX0_copyPlace_10 ?_
  refine m_last C w hna i rfl (by omega) (by omega) dX0_copyPlace_11 (fun H locs w => ?_)
  obtain ⟨M1, e_M1⟩ : ∃ z, z = mu M na (eL y n (va_up f i (f2 j))) := ⟨_, rfl⟩
  have w : mS D S0 M1 F s H locs := by rw [e_M1]; exact w
  have g_h : M1 h = some (eO 0 (hF k n t na ta)) := by rw [e_M1]; exact mu_k (m_ne hh hna ne_OA) hh
  have g_h2 : M1 h2 = some (eO 0 (hF k2 n2 t2 na2 ta2)) := by rw [e_M1]; exact mu_k (m_ne hh2 hna ne_OA) hh2
  have g_ta : M1 ta = some (eT y n g) := by rw [e_M1]; exact mu_k (m_ne hta hna ne_TL) hta
  have g_ta2 : M1 ta2 = some (eT y n2 g2) := by rw [e_M1]; exact mu_k (m_ne hta2 hna ne_TL) hta2
  refine lv_aload_n hx hb dX0_copyPlace_12 rfl (lv_at hl 0 rfl) ?_
  refine m_get C w g_h (index := 25) (T := TX0) (N := 5) rfl hi_X0 4 (by decide) (by decide +kernel) rfl dX0_copyPlace_13 ?_
  refine lv_iload_n hx hb dX0_copyPlace_16 rfl (lv_at hl 1 rfl) ?_
  refine lv_aload_n hx hb dX0_copyPlace_17 rfl (lv_at hl 2 rfl) ?_
  refine m_get C w g_h2 (index := 25) (T := TX0) (N := 5) rfl hi_X0 4 (by decide) (by decide +kernel) rfl dX0_copyPlace_18 ?_
  refine lv_iload_n hx hb dX0_copyPlace_21 rfl (lv_at hl 3 rfl) ?_
  refine m_tald C w g_ta2 j rfl (by omega) (by omega) dX0_copyPlace_22 ?_
  refine m_tast C w g_ta (v := g2 j) (fun z hz => ?_) i rfl (by omega) (by omega) dX0_copyPlace_23 (fun H locs w => ?_)
  · rw [e_M1]
    rcases hth z hz with ⟨vs, q⟩ | ⟨vs, q⟩
    · exact Or.inl ⟨vs, mu_k (m_ne q hna ne_OA) q⟩
    · exact Or.inr ⟨vs, mu_k (m_ne q hna ne_OA) q⟩
  exact m_vret C w dX0_copyPlace_24 (by omega) (by omega) (⟨rfl, by rw [e_M1]⟩)
set_option maxRecDepth 100000 in
set_option maxHeartbeats 4000000 in
theorem c_Hold_alike (l : Launch) (D : va_G) (y : mY) (S0 : Nat) (M F : mp) (h : Nat) (k n : Nat) (t : Int32) (na ta : Nat) (hh : M h = some (eO 0 (hF k n t na ta))) (h2 k2 n2 : Nat) (t2 : Int32) (na2 ta2 : Nat) (hh2 : M h2 = some (eO 0 (hF k2 n2 t2 na2 ta2))) (f f2 : Nat → Int64) (g g2 : Nat → Option Nat) (hna : M na = some (eL y n f)) (hta : M ta = some (eT y n g)) (hna2 : M na2 = some (eL y n2 f2)) (hta2 : M ta2 = some (eT y n2 g2)) (i j : Nat) (hi : i < n) (hj : j < n2) (hn : n ≤ 64) (hn2 : n2 ≤ 64) : ct l yX0_isAlike wsX0_isAlike 0 0 0 0 D y S0 M F [.ref h, .int (nI i), .ref h2, .int (nI j)] (fun v M' => v = some (.int (bI (decide (f i = f2 j) && decide (g i = g2 j)))) ∧ M' = M) := by
  refine ct_of cX0_isAlike 4 (some .boolean) [(0, .ref h), (1, .int (nI i)), (2, .ref h2), (3, .int (nI j))] (by decide +kernel) rfl (Nat.le_of_ble_eq_true rfl) rfl ?_
  intro p e s m below meth c ls C hnm hl w
  have hx := C.1
  have hb := C.2.1
  have hi_X0 : ∀ w ∈ u_ws RX0 TX0 5, w ∈ wsX0_isAlike := by decide +kernel
  refine lv_aload_n hx hb dX0_isAlike_0 rfl (lv_at hl 0 rfl) ?_
  refine m_get C w hh (index := 21) (T := TX0) (N := 5) rfl hi_X0 3 (by decide) (by decide +kernel) rfl dX0_isAlike_1 ?_
  refine lv_iload_n hx hb dX0_isAlike_4 rfl (lv_at hl 1 rfl) ?_
  refine m_lald C w hna i rfl (by omega) (by omega) dX0_isAlike_5 ?_
  refine lv_aload_n hx hb dX0_isAlike_6 rfl (lv_at hl 2 rfl) ?_
  refine m_get C w hh2 (index := 21) (T := TX0) (N := 5) rfl hi_X0 3 (by decide) (by decide +kernel) rfl dX0_isAlike_7 ?_
  refine lv_iload_n hx hb dX0_isAlike_10 rfl (lv_at hl 3 rfl) ?_
  refine m_lald C w hna2 j rfl (by omega) (by omega) dX0_isAlike_11 ?_
  refine W.lcmp hx hb dX0_isAlike_12 ?_
  refine lv_if_ne (tgt := 35) hx hb dX0_isAlike_13 (by decide) (fun c_13 => ?_) (fun c_13 => ?_)
  · skip
    have n_13 := (not_congr (lg_cmp_eq _ _)).mp c_13
    refine lv_iconst (v := 0) hx hb dX0_isAlike_35 (by decide) ?_
    exact m_zret C w dX0_isAlike_36 (by omega) (by omega) (by first | exact Or.inl rfl | exact Or.inr rfl) (⟨by simp_all [bI], rfl⟩)
  · skip
    have n_13 := (lg_cmp_eq _ _).mp c_13
    refine lv_aload_n hx hb dX0_isAlike_16 rfl (lv_at hl 0 rfl) ?_
    refine m_get C w hh (index := 25) (T := TX0) (N := 5) rfl hi_X0 4 (by decide) (by decide +kernel) rfl dX0_isAlike_17 ?_
    refine lv_iload_n hx hb dX0_isAlike_20 rfl (lv_at hl 1 rfl) ?_
    refine m_tald C w hta i rfl (by omega) (by omega) dX0_isAlike_21 ?_
    refine lv_aload_n hx hb dX0_isAlike_22 rfl (lv_at hl 2 rfl) ?_
    refine m_get C w hh2 (index := 25) (T := TX0) (N := 5) rfl hi_X0 4 (by decide) (by decide +kernel) rfl dX0_isAlike_23 ?_
    refine lv_iload_n hx hb dX0_isAlike_26 rfl (lv_at hl 3 rfl) ?_
    refine m_tald C w hta2 j rfl (by omega) (by omega) dX0_isAlike_27 ?_
    refine lv_acmp_ne (rx := g i) (ry := g2 j) (tgt := 35) hx hb dX0_isAlike_28 (by decide) (fun c_28 => ?_) (fun c_28 => ?_)
    · skip
      refine lv_iconst (v := 0) hx hb dX0_isAlike_35 (by decide) ?_
      exact m_zret C w dX0_isAlike_36 (by omega) (by omega) (by first | exact Or.inl rfl | exact Or.inr rfl) (⟨by simp_all [bI], rfl⟩)
    · skip
      refine lv_iconst (v := 1) hx hb dX0_isAlike_31 (by decide) ?_
      refine lv_goto (tgt := 36) hx hb dX0_isAlike_32 (by decide) ?_
      exact m_zret C w dX0_isAlike_36 (by omega) (by omega) (by first | exact Or.inl rfl | exact Or.inr rfl) (⟨by simp_all [bI], rfl⟩)
