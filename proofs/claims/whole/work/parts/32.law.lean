set_option maxRecDepth 100000 in
set_option maxHeartbeats 4000000 in
theorem law_loop {p : Program} {l : Launch} {e : Env} {s : State} {m : MethodId} {below : List Frame} {meth : Method} {c : Code} {D : va_G} {y : mY} {b L : Nat} {xs : Nat → Int32} (CL : lwC p s m meth c b L xs D y) (q1 m0 : Nat) :
    ∀ (kf j : Nat) (S : St) (Mc Mr : mp) (H : Heap) (locs : List Loc) (ls : Array Slot), 6 * j ≤ L → L - 6 * j = kf → RC y q1 S Mc → RM y m0 S Mr → Inv j S → mS D s.heap.size Mc Mr s H locs → lv_has ls 4 [(3, .int (nI (6 * j))), (0, .ref b), (1, .ref q1), (2, .ref m0)] → W p l e room_1 s m #[Value.ref b] below meth c H locs (21 + 3 * j) (35979 + 133 * j) (lw_Z below #[Value.ref b] s) (F0 m 18 ls []) := by
  intro kf
  induction kf using Nat.strongRecOn with
  | _ kf ih =>
    intro j S Mc Mr H locs ls hj hkf hRC hRM hI w hl
    have hL := CL.2.2.2
    have C := CL.1
    have hx := C.1
    have hb := C.2.1
    refine lv_iload_n hx hb dL_law_18 rfl (lv_at hl 0 rfl) ?_
    refine lv_aload_n hx hb dL_law_19 rfl (lv_at hl 1 rfl) ?_
    refine m_slen CL w dL_law_20 ?_
    refine lv_bipush (v := 6) hx hb dL_law_21 (by decide) ?_
    refine lv_isub hx hb dL_law_23 ?_
    refine lv_icmp_gt (tgt := 774) hx hb dL_law_24 (by decide) (fun c_24 => ?_) (fun c_24 => ?_)
    · refine lv_iconst (v := 1) hx hb dL_law_774 (by decide) ?_
      refine va_forget (fun q hq => w.2.2.2 q hq) ?_
      refine W.widen (k := 600000) (n := 7302250) (by omega) (by omega) ?_
      exact lw_ret C.1 C.2.1 C.2.2.2.2.2.1 C.2.2.2.2.2.2.1 dL_law_775
    · have h6 : 6 * j + 6 ≤ L := Classical.byContradiction fun q => c_24 ((six_le (by omega) hL).mpr q)
      have next : (∀ (S' : St) (Mc' Mr' : mp) (H : Heap) (locs : List Loc) (ls : Array Slot), RC y q1 S' Mc' → RM y m0 S' Mr' → Inv (j + 1) S' → mS D s.heap.size Mc' Mr' s H locs → lv_has ls 4 [(3, .int (nI (6 * j))), (0, .ref b), (1, .ref q1), (2, .ref m0)] → W p l e room_1 s m #[Value.ref b] below meth c H locs (21 + 3 * (j + 1)) (35979 + 133 * (j + 1)) (lw_Z below #[Value.ref b] s) (F0 m 768 ls [])) := by
        intro S' Mc' Mr' H locs ls hRC hRM hI w hl
        refine lv_iinc (v := nI (6 * (j + 1))) (lv' := [(3, .int (nI (6 * (j + 1)))), (0, .ref b), (1, .ref q1), (2, .ref m0)]) hx hb dL_law_768 hl (k := 0) rfl (by rw [show 6 * (j + 1) = 6 * j + 6 by omega]; exact nI_add _ _) (by decide) rfl (fun ls hl => ?_)
        refine lv_goto (tgt := 18) hx hb dL_law_771 (by decide) ?_
        exact ih (L - 6 * (j + 1)) (by omega) (j + 1) S' Mc' Mr' _ _ ls (by omega) rfl hRC hRM hI w hl
      refine lv_aload_n hx hb dL_law_27 rfl (lv_at hl 1 rfl) ?_
      refine lv_iload_n hx hb dL_law_28 rfl (lv_at hl 0 rfl) ?_
      refine m_sld CL w (6 * j) rfl (by omega) dL_law_29 ?_
      refine lv_bipush (v := 31) hx hb dL_law_30 (by decide) ?_
      refine lv_iand hx hb dL_law_32 ?_
      obtain ⟨k, hk, ek⟩ := pk_andE (xs (6 * j)) (m := 31) 5 (by decide)
      refine m_topi (y := nI k) ek ?_
      have hkI : (nI k).toInt = (k : Int) := nI_toInt (by omega)
      by_cases kd : k < 0 ∨ 16 < k
      · refine lv_tableOut (tgt := 768) hx hb dL_law_33 (by rw [hkI]; omega) (by decide) ?_
        refine W.widen (k := 21 + 3 * (j + 1)) (n := 35979 + 133 * (j + 1)) (by omega) (by omega) ?_
        exact next _ _ _ _ _ ls hRC hRM (hI.up (Nat.le_succ j) (by omega)) w hl
      rcases (show k = 0 ∨ k = 1 ∨ k = 2 ∨ k = 3 ∨ k = 4 ∨ k = 5 ∨ k = 6 ∨ k = 7 ∨ k = 8 ∨ k = 9 ∨ k = 10 ∨ k = 11 ∨ k = 12 ∨ k = 13 ∨ k = 14 ∨ k = 15 ∨ k = 16 by omega) with rfl | rfl | rfl | rfl | rfl | rfl | rfl | rfl | rfl | rfl | rfl | rfl | rfl | rfl | rfl | rfl | rfl
      · refine lv_tableIn (tgt := 116) (off := 83) hx hb dL_law_33 (by rw [hkI]; decide) (by rw [hkI]; decide) (by rw [hkI]; rfl) (by decide) ?_
        exact law_lay CL q1 m0 j h6 S Mc Mr hRC hRM hI _ _ ls w hl next
      · refine lv_tableIn (tgt := 159) (off := 126) hx hb dL_law_33 (by rw [hkI]; decide) (by rw [hkI]; decide) (by rw [hkI]; rfl) (by decide) ?_
        exact law_ticket CL q1 m0 j h6 S Mc Mr hRC hRM hI _ _ ls w hl next
      · refine lv_tableIn (tgt := 202) (off := 169) hx hb dL_law_33 (by rw [hkI]; decide) (by rw [hkI]; decide) (by rw [hkI]; rfl) (by decide) ?_
        exact law_share CL q1 m0 j h6 S Mc Mr hRC hRM hI _ _ ls w hl next
      · refine lv_tableIn (tgt := 235) (off := 202) hx hb dL_law_33 (by rw [hkI]; decide) (by rw [hkI]; decide) (by rw [hkI]; rfl) (by decide) ?_
        exact law_put CL q1 m0 j h6 S Mc Mr hRC hRM hI _ _ ls w hl next
      · refine lv_tableIn (tgt := 278) (off := 245) hx hb dL_law_33 (by rw [hkI]; decide) (by rw [hkI]; decide) (by rw [hkI]; rfl) (by decide) ?_
        exact law_move CL q1 m0 j h6 S Mc Mr hRC hRM hI _ _ ls w hl next
      · refine lv_tableIn (tgt := 341) (off := 308) hx hb dL_law_33 (by rw [hkI]; decide) (by rw [hkI]; decide) (by rw [hkI]; rfl) (by decide) ?_
        exact law_open CL q1 m0 j h6 S Mc Mr hRC hRM hI _ _ ls w hl next
      · refine lv_tableIn (tgt := 384) (off := 351) hx hb dL_law_33 (by rw [hkI]; decide) (by rw [hkI]; decide) (by rw [hkI]; rfl) (by decide) ?_
        exact law_close CL q1 m0 j h6 S Mc Mr hRC hRM hI _ _ ls w hl next
      · refine lv_tableIn (tgt := 427) (off := 394) hx hb dL_law_33 (by rw [hkI]; decide) (by rw [hkI]; decide) (by rw [hkI]; rfl) (by decide) ?_
        exact law_turn CL q1 m0 j h6 S Mc Mr hRC hRM hI _ _ ls w hl next
      · refine lv_tableIn (tgt := 460) (off := 427) hx hb dL_law_33 (by rw [hkI]; decide) (by rw [hkI]; decide) (by rw [hkI]; rfl) (by decide) ?_
        exact law_spread CL q1 m0 j h6 S Mc Mr hRC hRM hI _ _ ls w hl next
      · refine lv_tableIn (tgt := 493) (off := 460) hx hb dL_law_33 (by rw [hkI]; decide) (by rw [hkI]; decide) (by rw [hkI]; rfl) (by decide) ?_
        exact law_undo CL q1 m0 j h6 S Mc Mr hRC hRM hI _ _ ls w hl next
      · refine lv_tableIn (tgt := 506) (off := 473) hx hb dL_law_33 (by rw [hkI]; decide) (by rw [hkI]; decide) (by rw [hkI]; rfl) (by decide) ?_
        exact law_match CL q1 m0 j h6 S Mc Mr hRC hRM hI _ _ ls w hl next
      · refine lv_tableIn (tgt := 569) (off := 536) hx hb dL_law_33 (by rw [hkI]; decide) (by rw [hkI]; decide) (by rw [hkI]; rfl) (by decide) ?_
        exact law_polish CL q1 m0 j h6 S Mc Mr hRC hRM hI _ _ ls w hl next
      · refine lv_tableIn (tgt := 612) (off := 579) hx hb dL_law_33 (by rw [hkI]; decide) (by rw [hkI]; decide) (by rw [hkI]; rfl) (by decide) ?_
        exact law_tray CL q1 m0 j h6 S Mc Mr hRC hRM hI _ _ ls w hl next
      · refine lv_tableIn (tgt := 645) (off := 612) hx hb dL_law_33 (by rw [hkI]; decide) (by rw [hkI]; decide) (by rw [hkI]; rfl) (by decide) ?_
        exact law_what CL q1 m0 j h6 S Mc Mr hRC hRM hI _ _ ls w hl next
      · refine lv_tableIn (tgt := 678) (off := 645) hx hb dL_law_33 (by rw [hkI]; decide) (by rw [hkI]; decide) (by rw [hkI]; rfl) (by decide) ?_
        exact law_at CL q1 m0 j h6 S Mc Mr hRC hRM hI _ _ ls w hl next
      · refine lv_tableIn (tgt := 712) (off := 679) hx hb dL_law_33 (by rw [hkI]; decide) (by rw [hkI]; decide) (by rw [hkI]; rfl) (by decide) ?_
        exact law_polished CL q1 m0 j h6 S Mc Mr hRC hRM hI _ _ ls w hl next
      · refine lv_tableIn (tgt := 745) (off := 712) hx hb dL_law_33 (by rw [hkI]; decide) (by rw [hkI]; decide) (by rw [hkI]; rfl) (by decide) ?_
        exact law_told CL q1 m0 j h6 S Mc Mr hRC hRM hI _ _ ls w hl next
/-- the tables at the start -/
theorem law_tables {s : State} {args : Array Value} (hts : ∀ w ∈ lw_tbl, w.before args s = true) (hgv : (Jvm.Cond.and given_1 narrow_1).before args s = true) : ∃ (D : va_G) (y : mY), mT D y s := by
  obtain ⟨c0, i0, k0⟩ := u_known (C := RX0) (T := TX0) (N := 5) (n := 5) hts inX0 (hts (.instantiable RX0 5) (by decide +kernel))
  obtain ⟨c1, i1, k1⟩ := u_known (C := RX1) (T := TX1) (N := 3) (n := 3) hts inX1 (hts (.instantiable RX1 3) (by decide +kernel))
  obtain ⟨c2, i2, k2⟩ := u_known (C := RX3) (T := TX3) (N := 7) (n := 7) hts inX3 (hts (.instantiable RX3 7) (by decide +kernel))
  obtain ⟨c3, i3, k3⟩ := u_known (C := RX4) (T := TX4) (N := 16) (n := 16) hts inX4 (hts (.instantiable RX4 16) (by decide +kernel))
  obtain ⟨yI, kI, pI, a1, a2, a3⟩ := Cond.arrayClass_spec (hts (.arrayClass .int) (by decide +kernel))
  obtain ⟨yL, kL, pL, b1, b2, b3⟩ := Cond.arrayClass_spec (hts (.arrayClass .long) (by decide +kernel))
  obtain ⟨pH, yH, kH, d1, d2, d3, d4, d5⟩ := Cond.arrayOver_spec (hts (.arrayOver (.object RX0)) (by decide +kernel))
  obtain ⟨pT, yT, kT, e1, e2, e3, e4, e5⟩ := Cond.arrayOver_spec (hts (.arrayOver (.object RX2)) (by decide +kernel))
  refine ⟨(fun k => if k = 0 then c0 else if k = 1 then c1 else if k = 2 then c2 else c3, fun k => if k = 0 then i0 else if k = 1 then i1 else if k = 2 then i2 else i3), (yI, yL, yH, yT), ⟨fun k q hq => ?_, fun k q hq => ?_⟩, fun w hw => ?_, ?_, va_AO.of (hts (.arrayOver (.object RX0)) (by decide +kernel)), va_AO.of (hts (.arrayOver (.object RX2)) (by decide +kernel))⟩
  · match k, hq with
    | 0, hq => cases hq; exact k0
    | 1, hq => cases hq; exact k1
    | 2, hq => cases hq; exact k2
    | 3, hq => cases hq; exact k3
    | k + 4, hq => simp [vwCl] at hq
  · match k, hq with
    | 0, hq => cases hq; exact ⟨fun n z => ⟨fun k h => (by cases h), kI, a2, pI, a3⟩, a1⟩
    | 1, hq => cases hq; exact ⟨fun n z => ⟨fun k h => (by cases h), kL, b2, pL, b3⟩, b1⟩
    | 2, hq => cases hq; exact ⟨fun n z => ⟨fun k h => (by cases h), kH, d3, pH, d4⟩, kH, pH, d3, d4, d1, d5⟩
    | 3, hq => cases hq; exact ⟨fun n z => ⟨fun k h => (by cases h), kT, e3, pT, e4⟩, kT, pT, e3, e4, e1, e5⟩
    | k + 4, hq => simp at hq
  · have ho : w.onTables = true := by
      revert w hw
      decide +kernel
    exact va_Nw.of ho (hts w (List.mem_append_right _ (mnw_tbl w hw)))
  · exact va_Nc.of (flat_of_before _ hgv (.not (.castable RX0 RX1)) (by decide +kernel))
set_option maxRecDepth 100000 in
set_option maxHeartbeats 4000000 in
/-- THE LAW, from its entry -/
theorem whole_start {p : Program} {e : Env} {s : State} {m : MethodId} {below : List Frame} {meth : Method} {c : Code} (l : Launch) {b L : Nat} {xs : Nat → Int32} (hL : L ≤ 3072) (C0 : lw_At p s m meth c b L xs) : W p l e room_1 s m #[Value.ref b] below meth c s.heap [] 0 0 (lw_Z below #[Value.ref b] s) (entryFrame m ([Value.ref b] : List Value).toArray 4) := by
  obtain ⟨hx, hb, hr, hml, hown, hts, hX, hbl, hlocks, hgv⟩ := id C0
  obtain ⟨D, y, hT⟩ := law_tables hts hgv
  have C : mC p s m #[Value.ref b] meth c cL_law 4 RL wsL_law ret D y s.heap.size := ⟨hx, hb, hml, hown, fun w h => hts w (wsL_law_in w h), hr, hlocks, hT, Nat.le_refl _⟩
  have CL : lwC p s m meth c b L xs D y := ⟨C, hX, hbl, hL⟩
  have w : mS D s.heap.size (fun _ => none) (fun _ => none) s s.heap [] := ⟨⟨[], fun k q h => (by simp at h), ⟨fun i j p q h => (by simp at h), fun k q h => (by simp at h)⟩, fun a e h => (by cases h), fun a e h => (by cases h), fun a e h => rfl⟩, va_S.rf⟩
  have hl := lv_entry ([.ref b]) (n := 4) (Nat.le_of_ble_eq_true rfl)
  rw [lg_entry_eq]
  generalize (lg_sl ([.ref b]) ++ List.replicate (4 - (lg_sl ([.ref b])).length) Slot.unset).toArray = ls at hl ⊢
  have hl : lv_has ls 4 [(0, .ref b)] := hl
  refine m_new C w 2 [.null, .null, .null, .null, .null, .int 0, .int 0] (T := TX3) (N := 7) rfl inlX3 tyX3 tyX3_ok (by decide +kernel) (by decide +kernel) (by decide +kernel) (by intro j hj; rcases (show j = 0 ∨ j = 1 ∨ j = 2 ∨ j = 3 ∨ j = 4 ∨ j = 5 ∨ j = 6 by omega) with rfl | rfl | rfl | rfl | rfl | rfl | rfl <;> rfl) (Nat.le_of_ble_eq_true rfl) (Nat.le_of_ble_eq_true rfl) dL_law_0 (fun q1 H hMq hFq w => ?_)
  refine lv_dup hx hb dL_law_3 rfl ?_
  refine m_callI C w hl.1 (As := []) (rest := [.ref q1]) (c_Bench_init l D y s.heap.size _ _ q1 mu_s) ggL_law_X3_init rfl (by decide +kernel) (by decide +kernel) (by decide +kernel) rfl (show (_ ≠ _ ∧ _ ≠ _ ∧ _ = some 0) by decide +kernel) ⟨Nat.le_of_ble_eq_true rfl, Nat.le_of_ble_eq_true rfl⟩ rfl (Nat.le_of_ble_eq_true rfl) dL_law_4 ⟨Nat.le_of_ble_eq_true rfl, Nat.le_of_ble_eq_true rfl⟩ (fun v Mc H locs hq w => ?_)
  obtain ⟨rfl, hRC⟩ := hq
  refine W.eq (g2 := F0 m 7 ls [.ref q1]) rfl ?_
  refine lv_astore_n (lv' := [(1, .ref q1), (0, .ref b)]) hx hb dL_law_7 rfl hl (by decide) rfl (fun ls hl => ?_)
  have w := w.swap
  refine m_new C w 3 [.null, .null, .null, .null, .null, .null, .int 0, .int 0, .null, .null, .int 0, .null, .null, .int 0, .int 0, .null] (T := TX4) (N := 16) rfl inlX4 tyX4 tyX4_ok (by decide +kernel) (by decide +kernel) (by decide +kernel) (by intro j hj; rcases (show j = 0 ∨ j = 1 ∨ j = 2 ∨ j = 3 ∨ j = 4 ∨ j = 5 ∨ j = 6 ∨ j = 7 ∨ j = 8 ∨ j = 9 ∨ j = 10 ∨ j = 11 ∨ j = 12 ∨ j = 13 ∨ j = 14 ∨ j = 15 by omega) with rfl | rfl | rfl | rfl | rfl | rfl | rfl | rfl | rfl | rfl | rfl | rfl | rfl | rfl | rfl | rfl <;> rfl) (Nat.le_of_ble_eq_true rfl) (Nat.le_of_ble_eq_true rfl) dL_law_8 (fun m0 H hMm hFm w => ?_)
  refine lv_dup hx hb dL_law_11 rfl ?_
  refine m_callI C w hl.1 (As := []) (rest := [.ref m0]) (r_init l D y s.heap.size _ _ m0 mu_s) ggL_law_X4_init rfl (by decide +kernel) (by decide +kernel) (by decide +kernel) rfl (show (_ ≠ _ ∧ _ ≠ _ ∧ _ = some 0) by decide +kernel) ⟨Nat.le_of_ble_eq_true rfl, Nat.le_of_ble_eq_true rfl⟩ rfl (Nat.le_of_ble_eq_true rfl) dL_law_12 ⟨Nat.le_of_ble_eq_true rfl, Nat.le_of_ble_eq_true rfl⟩ (fun v Mr H locs hq w => ?_)
  obtain ⟨rfl, hRM⟩ := hq
  have w := w.swap
  refine W.eq (g2 := F0 m 15 ls [.ref m0]) rfl ?_
  refine lv_astore_n (lv' := [(2, .ref m0), (1, .ref q1), (0, .ref b)]) hx hb dL_law_15 rfl hl (by decide) rfl (fun ls hl => ?_)
  refine lv_iconst (v := 0) hx hb dL_law_16 (by decide) ?_
  refine lv_istore_n (lv' := [(3, .int (nI (6 * 0))), (2, .ref m0), (1, .ref q1), (0, .ref b)]) hx hb dL_law_17 rfl hl (by decide) rfl (fun ls hl => ?_)
  refine W.widen (k := 21 + 3 * 0) (n := 35979 + 133 * 0) (by omega) (by omega) ?_
  have hI0 : Inv 0 s00 := ⟨Nat.le_refl _, Nat.le_refl _, by omega, fun r hr => absurd hr (Nat.not_lt_zero r), fun k k1 k2 => absurd (Nat.le_trans k1 k2) (by decide), fun _ _ => rfl, fun t ht => ⟨Nat.zero_le _, fun h => absurd h (show ¬ 2 ≤ 0 by decide)⟩, fun r hr => (by cases hr), Nat.zero_le _⟩
  exact law_loop CL q1 m0 _ 0 s00 Mc Mr _ _ ls (by omega) rfl hRC hRM hI0 w (lv_sub hl [0, 3, 2, 1] rfl)
-- ===== YOUR PART ENDS =====
set_option maxHeartbeats 4000000 in
theorem lw_walk (l : Launch) (b : Addr) (xs : List Int32) : MetFree l x (headSpec (Jvm.Cond.code x code maxLocals ret :: tables_1) room_1) (lw_P b xs) (fun _ _ _ _ _ => True) lw_Q := by
  refine MetFree.of_bodyS (code := code) (maxLocals := maxLocals) (ret := ret) (by decide) ?_ ?_
  · intro args s m h hn
    obtain ⟨meth, c, h1, h2, h3, h4, h5, h6, -, -⟩ := Cond.code_spec hn (atoms_spec (ws := Jvm.Cond.code x code maxLocals ret :: tables_1) h _ List.mem_cons_self)
    exact ⟨meth, c, h1, h2, h3, h4, h5, h6⟩
  · intro p e s m args below meth c s₁ B hml0 hP _
    obtain ⟨rfl, hx, hbd, hgv⟩ := hP
    obtain ⟨scr, harrAt, hlist, hof, hsmall⟩ := hx
    obtain ⟨hcb, hkn, -, -⟩ := State.arrayAt?_spec harrAt
    have hown : s.vm.findClass R_law = some m.cls := findClass_of_methodNamed B.named
    have hts0 : ∀ c ∈ (Jvm.Cond.code x code maxLocals ret :: tables_1), c.before #[Value.ref b] s = true := atoms_spec (ws := Jvm.Cond.code x code maxLocals ret :: tables_1) B.pre
    have hts : ∀ w ∈ lw_tbl, w.before #[Value.ref b] s = true := k2_hts_sels lw_privs (fun w hw => hts0 w (List.mem_cons_of_mem _ hw)) lw_privs_ok
    have hml : c.maxLocals = 4 := B.maxLocals_eq (hts0 _ List.mem_cons_self)
    have X₀ : Stand p l e room_1 s m #[Value.ref b] below meth c s₁ [] 0 0 := Stand.of_body B
    have hh0 : s₁.heap = s.heap := by rw [B.state]; rfl
    have hsz : scr.slots.size = xs.length := by rw [← Array.length_toList, hlist, List.length_map]
    have hval : ∀ j : Nat, j < xs.length → scr.slots[j]? = some (.int (xs.getD j 0)) := fun j hj => by
      rw [← Array.getElem?_toList, hlist]
      simp [hj]
    have hbl : b < s.heap.size := (Array.getElem?_eq_some_iff.mp hcb).1
    have hX : va_X b xs.length (fun j => xs.getD j 0) s s.heap := ⟨scr, hcb, hof, hkn, hsz, hval⟩
    have K : W p l e room_1 s m #[Value.ref b] below meth c s₁.heap [] 0 0 (lw_Z below #[Value.ref b] s) (entryFrame m ([Value.ref b] : List Value).toArray 4) := by
      rw [hh0]
      exact whole_start l hbd ⟨B.exec, B.bytes, B.returns, hml, hown, hts, hX, hbl, B.notSynchronized, hgv⟩
    obtain ⟨t, a1, o, b1, b2, b3⟩ := K s₁ rfl X₀
    exact ⟨t, o, a1, b1, b2, b3⟩
theorem lw_pre_spec {args : Array Value} {s : State} (h : (Jvm.Cond.and given_1 narrow_1).before args s = true) (hr : rest_1_c.before args s = true) : ∃ (b : Addr) (xs : List Int32), lw_P b xs args s := by
  have hs := flat_of_before _ h
  have hq := flat_of_before _ hr
  have hc : (Cond.count 1).before args s = true := hs _ (by decide +kernel)
  have harr : (Cond.arrayOf (.arg 0) .int).before args s = true := hs _ (by decide +kernel)
  have hle : (Cond.le (.length (.arg 0)) (.int 3072)).before args s = true := hs _ (by decide +kernel)
  have hlen : (Cond.isInt (.length (.arg 0))).before args s = true := hq _ (by decide +kernel)
  have hall : (Cond.all (.arg 0) (.isInt (.elem (.arg 0) (.index 0)))).before args s = true := hq _ (by decide +kernel)
  obtain ⟨b, xs, hb, hx⟩ := State.ints_of_pre rfl harr hlen hall
  have hsm : xs.length < 2 ^ 31 := hx.choose_spec.2.2.2
  have hev : (Term.length (.arg 0)).eval args s none [] s = some (.int xs.length.toInt32) := hx.length_eval hb
  have hv := Cond.le_ints hev (show (Term.int 3072).eval args s none [] s = some (.int 3072) from rfl)
  have hd : xs.length.toInt32 ≤ 3072 := by
    simpa [Cond.before, Cond.holds, hv] using hle
  have hN : xs.length ≤ 3072 := (Int32.ofNat_le_ofNat hsm (by decide)).mp (show Int32.ofNat xs.length ≤ Int32.ofNat 3072 from hd)
  exact ⟨b, xs, Cond.one_arg hc (show args[0]? = some (.ref b) from hb), hx, hN, h⟩
theorem lw_comes (l : Launch) : Comes l x (Jvm.Cond.code x code maxLocals ret :: tables_1) room_1 (fun tb e args s => Calls_1 tb e args s ∧ rest_1 tb e args s ∧ Pre_1 tb e args s)
    (fun _ _ args s o t => lw_Q args s o t) := by
  intro p e ha hc hk s m args below hf hfit hheap happ hpre
  obtain ⟨b, xs, hP⟩ := lw_pre_spec hpre.2.2 hpre.2.1
  obtain ⟨k, o, h1, h2, h3, hQ⟩ := lw_walk l b xs p e ha hc hk s m args below hf ((Spec.applies_iff_loose hf).mp happ).1 hP trivial
  exact ⟨k, o, h1, h2, h3, hQ⟩
theorem lw_frame {s t : State} {o : Outcome} {args : Array Value} (h : Framed s o t [] 600000 7302250) :
    Framed s o t (fieldLocs frame_1_writes args s ++ arrayLocs frame_1_arrays args s ++ staticLocs frame_1_statics s) 600000 7302250 := h
theorem lw_limb (L : Cond) (hL : ∀ (args : Array Value) (s t : State), L.after args s (.returned (some (.int 1))) t = true) :
    ArmFor flags0 classFile x code maxLocals ret World_1 tables_1 room_1 Calls_1 rest_1 Pre_1
      (fun tb e a s o t => postC L tb e a s o t ∧ Framed s o t (fieldLocs frame_1_writes a s ++ arrayLocs frame_1_arrays a s ++ staticLocs frame_1_statics s) 600000 7302250) := by
  intro l _ _ _ p e ha hc hk s m args below hf hfit hheap happ hpre
  obtain ⟨k, o, h1, h2, h3, rfl, hF⟩ := lw_comes l p e ha hc hk s m args below hf hfit hheap happ hpre
  exact ⟨k, _, h1, h2, h3, hL args s _, lw_frame hF⟩
theorem i_vc : Claimed_1_1 ∧ Claimed_1_2 := ⟨lw_limb limb_1_1 (fun args s t => by simp [limb_1_1, Cond.after, Cond.holds, Cond.value]), lw_limb limb_1_2 (fun args s t => Cond.after_iff.mpr (by
  first | (rw [show limb_1_2 = Cond.eq .result (.int 1) from rfl, Cond.eq_ints (x := 1) (y := 1) rfl rfl]; simp; done) | (simp [limb_1_2, Cond.value, Term.eval]; done)))⟩
