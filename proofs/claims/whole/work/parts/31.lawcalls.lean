/-! THE CLAIM OUT OF ONE WALK OF THE LAW'S BODY. Your part is whole_start (and what it stands on); all else here is the same for every law, but numbers. -/
def R_law : String := "BeadBenchLaw"
def lw_P (b : Addr) (xs : List Int32) (args : Array Value) (s : State) : Prop := args = #[.ref b] ∧ s.IntsAt b xs ∧ xs.length ≤ 3072 ∧ (Jvm.Cond.and given_1 narrow_1).before args s = true
def lw_Q (_ : Array Value) (s : State) (o : Outcome) (t : State) : Prop := o = .returned (some (.int 1)) ∧ Framed s o t [] 600000 7302250
def lw_Z (below : List Frame) (a : Array Value) (s : State) : State → Prop := fun t => ∃ o, t.status = .running ∧ Ended t below o ∧ lw_Q a s o t
/-- the law's own end, with 1 on the stack, nothing written that was there before, its room as the claim has it -/
theorem lw_ret {p : Program} {l : Launch} {e : Env} {s : State} {m : MethodId} {below : List Frame} {meth : Method} {c : Code} {b : Nat} (hx : p.tables.exec = Jvm.exec) (hb : c.code = code) (hr : meth.sig.returnType = ret) (hlocks : meth.locks = false) {pc : Nat} {H : Heap} {ls : Array Slot} (hdg : decode code pc = .ok (.ireturn, 1)) : W p l e room_1 s m #[Value.ref b] below meth c H [] 600000 7302250 (lw_Z below #[Value.ref b] s) (F0 m pc ls [.int 1]) := by
  intro T hT X
  obtain ⟨fs, hret, hrun, hended, hW, hframe⟩ := X.leave (v := some (.int 1)) (hlocks := hlocks) (fun h => by rw [hr] at h; cases h)
  have hmeth' : T.vm.method? m = some meth := X.method'
  refine ⟨T.setFrames fs, ?_, .returned (some (.int 1)), hrun, hended, rfl, ⟨_, rfl⟩, hW, hframe⟩
  jvm_step X.here [X.here.top, hx, hb, hdg, hmeth', hr, ret, narrow_b1]
  (try refine ⟨rfl, ?_⟩); (try refine ⟨rfl, ?_⟩)
  first | (intro acts; rw [hret _ acts rfl rfl rfl]) | rw [hret _ _ rfl rfl rfl]
  exact Steps.refl _
/-- what holds at the law's entry: the machine, the code, the tables' words (any of lw_tbl by 'hts w (by decide +kernel)'), the script of L ints xs at the cell b, what the Statement gives of the start (any of its parts by flat_of_before) -/
def lw_At (p : Program) (s : State) (m : MethodId) (meth : Method) (c : Code) (b L : Nat) (xs : Nat → Int32) : Prop :=
  p.tables.exec = Jvm.exec ∧ c.code = code ∧ meth.sig.returnType = ret ∧ c.maxLocals = 4 ∧ s.vm.findClass R_law = some m.cls ∧ (∀ w ∈ lw_tbl, w.before #[Value.ref b] s = true) ∧ va_X b L xs s s.heap ∧ b < s.heap.size ∧ meth.locks = false ∧ (Jvm.Cond.and given_1 narrow_1).before #[Value.ref b] s = true
theorem mS.swap {D : va_G} {S0 : Nat} {M F : mp} {s : State} {H : Heap} {locs : List Loc} (w : mS D S0 M F s H locs) : mS D S0 F M s H locs := ⟨w.1.swap, w.2⟩
/-- what the law's walk stands on -/
def lwC (p : Program) (s : State) (m : MethodId) (meth : Method) (c : Code) (b L : Nat) (xs : Nat → Int32) (D : va_G) (y : mY) : Prop := mC p s m #[Value.ref b] meth c cL_law 4 RL wsL_law ret D y s.heap.size ∧ va_X b L xs s s.heap ∧ b < s.heap.size ∧ L ≤ 3072
section LW
variable {p : Program} {l : Launch} {e : Env} {R : Room} {s : State} {m : MethodId} {args : Array Value} {below : List Frame} {meth : Method} {c : Code} {H : Heap} {locs : List Loc} {cells slots : Nat} {Q : State → Prop}
variable {pc : Nat} {ls : Array Slot} {rest : List Value} {D : va_G} {y : mY} {M F : mp} {b L : Nat} {xs : Nat → Int32}
theorem m_sld (C : lwC p s m meth c b L xs D y) (w : mS D s.heap.size M F s H locs) {i : Int32} (k : Nat) (hi : i = nI k) (hk : k < L) (hdg : decode cL_law pc = .ok (.iaload, 1))
    (kk : W p l e R s m #[Value.ref b] below meth c H locs cells slots Q (F0 m (pc + 1) ls (.int (xs k) :: rest))) : W p l e R s m #[Value.ref b] below meth c H locs cells slots Q (F0 m pc ls (.int i :: .ref b :: rest)) := by
  have hL := C.2.2.2
  subst hi
  refine va_sld C.1.1 C.1.2.1 C.2.1 C.2.2.1 (A := fun q => s.heap.size ≤ q) (Nat.not_le.mpr C.2.2.1) w.2 (vp_in_nI hk (by omega)) hdg ?_
  rw [nI_clamp (by omega)]
  exact kk
theorem m_slen (C : lwC p s m meth c b L xs D y) (w : mS D s.heap.size M F s H locs) (hdg : decode cL_law pc = .ok (.arraylength, 1))
    (kk : W p l e R s m #[Value.ref b] below meth c H locs cells slots Q (F0 m (pc + 1) ls (.int (nI L) :: rest))) : W p l e R s m #[Value.ref b] below meth c H locs cells slots Q (F0 m pc ls (.ref b :: rest)) :=
  va_slen C.1.1 C.1.2.1 C.2.1 C.2.2.1 (A := fun q => s.heap.size ≤ q) (Nat.not_le.mpr C.2.2.1) w.2 hdg kk
end LW
theorem six_le {i L : Nat} (hi : i < 2 ^ 20) (hL : L ≤ 3072) : nI L - 6 < nI i ↔ ¬ i + 6 ≤ L := by
  rw [Int32.lt_iff_toInt_lt, show (6 : Int32) = nI 6 from rfl, pk_sub_toInt (by omega) (by decide), nI_toInt (by omega)]
  omega
set_option maxRecDepth 100000 in
set_option maxHeartbeats 4000000 in
theorem law_lay {p : Program} {l : Launch} {e : Env} {s : State} {m : MethodId} {below : List Frame} {meth : Method} {c : Code} {D : va_G} {y : mY} {b L : Nat} {xs : Nat → Int32} (CL : lwC p s m meth c b L xs D y) (q1 m0 j : Nat) (hj : 6 * j + 6 ≤ L) (S : St) (Mc Mr : mp) (hRC : RC y q1 S Mc) (hRM : RM y m0 S Mr) (hI : Inv j S) (H : Heap) (locs : List Loc) (ls : Array Slot) (w : mS D s.heap.size Mc Mr s H locs) (hl : lv_has ls 4 [(3, .int (nI (6 * j))), (0, .ref b), (1, .ref q1), (2, .ref m0)]) (next : (∀ (S' : St) (Mc' Mr' : mp) (H : Heap) (locs : List Loc) (ls : Array Slot), RC y q1 S' Mc' → RM y m0 S' Mr' → Inv (j + 1) S' → mS D s.heap.size Mc' Mr' s H locs → lv_has ls 4 [(3, .int (nI (6 * j))), (0, .ref b), (1, .ref q1), (2, .ref m0)] → W p l e room_1 s m #[Value.ref b] below meth c H locs (21 + 3 * (j + 1)) (35979 + 133 * (j + 1)) (lw_Z below #[Value.ref b] s) (F0 m 768 ls []))) : W p l e room_1 s m #[Value.ref b] below meth c H locs (21 + 3 * j) (35979 + 133 * j) (lw_Z below #[Value.ref b] s) (F0 m 116 ls []) := by
  have hL := CL.2.2.2
  have C := CL.1
  have hx := C.1
  have hb := C.2.1
  have hj5 : j + 1 ≤ 512 := by omega
  obtain ⟨A, tr, f, g, hC, hR⟩ := hRC
  obtain ⟨B, fr, nc, cl, go, bf, cn, hW, hQ⟩ := hRM
  refine lv_aload_n hx hb dL_law_116 rfl (lv_at hl 2 rfl) ?_
  refine lv_aload_n hx hb dL_law_117 rfl (lv_at hl 1 rfl) ?_
  refine lv_iload_n hx hb dL_law_118 rfl (lv_at hl 0 rfl) ?_
  refine lv_iconst (v := 1) hx hb dL_law_119 (by decide) ?_
  refine lv_iadd hx hb dL_law_120 ?_
  refine m_sld CL w (6 * j + 1) (nI_add _ _) (by omega) dL_law_121 ?_
  refine lv_aload_n hx hb dL_law_122 rfl (lv_at hl 1 rfl) ?_
  refine lv_iload_n hx hb dL_law_123 rfl (lv_at hl 0 rfl) ?_
  refine lv_iconst (v := 2) hx hb dL_law_124 (by decide) ?_
  refine lv_iadd hx hb dL_law_125 ?_
  refine m_sld CL w (6 * j + 2) (nI_add _ _) (by omega) dL_law_126 ?_
  refine lv_aload_n hx hb dL_law_127 rfl (lv_at hl 1 rfl) ?_
  refine lv_iload_n hx hb dL_law_128 rfl (lv_at hl 0 rfl) ?_
  refine lv_iconst (v := 3) hx hb dL_law_129 (by decide) ?_
  refine lv_iadd hx hb dL_law_130 ?_
  refine m_sld CL w (6 * j + 3) (nI_add _ _) (by omega) dL_law_131 ?_
  refine m_callV C w hl.1 (As := [.int (xs (6 * j + 1)), .int (xs (6 * j + 2)), .int (xs (6 * j + 3))]) (rest := []) (c_lay l D y s.heap.size Mc Mr q1 A tr f g S hC j hI hR (xs (6 * j + 1)) (xs (6 * j + 2)) (xs (6 * j + 3))) gL_law_X3_lay rfl hC.1.1 (T := TX3) (N := 7) rfl (show (_ = _ ∧ _ ≠ _ ∧ _ ≠ _ ∧ _ = some 3) by decide +kernel) ⟨Nat.le_of_ble_eq_true rfl, Nat.le_of_ble_eq_true rfl⟩ rfl (Nat.le_of_ble_eq_true rfl) dL_law_132 ⟨by show _ ≤ 600000; omega, by show _ ≤ 7302250; omega⟩ (fun v M1 H locs hq w => ?_)
  obtain ⟨rfl, hRC1⟩ := hq
  obtain ⟨Mc1, eMc1⟩ : ∃ z, z = M1 := ⟨_, rfl⟩
  rw [← eMc1] at w hRC1
  clear eMc1 M1
  refine W.widen (k := 21 + 3 * (j + 1)) (n := 35979 + 133 * (j + 1)) (by omega) (by omega) ?_
  have w := w.swap
  refine W.eq (g2 := F0 m 135 ls [.int (sp_lay S (xs (6 * j + 1)) (xs (6 * j + 2)) (xs (6 * j + 3))).1]) rfl ?_
  refine lv_aload_n hx hb dL_law_135 rfl (lv_at hl 3 rfl) ?_
  refine lv_aload_n hx hb dL_law_136 rfl (lv_at hl 1 rfl) ?_
  refine lv_iload_n hx hb dL_law_137 rfl (lv_at hl 0 rfl) ?_
  refine lv_iconst (v := 1) hx hb dL_law_138 (by decide) ?_
  refine lv_iadd hx hb dL_law_139 ?_
  refine m_sld CL w (6 * j + 1) (nI_add _ _) (by omega) dL_law_140 ?_
  refine lv_aload_n hx hb dL_law_141 rfl (lv_at hl 1 rfl) ?_
  refine lv_iload_n hx hb dL_law_142 rfl (lv_at hl 0 rfl) ?_
  refine lv_iconst (v := 2) hx hb dL_law_143 (by decide) ?_
  refine lv_iadd hx hb dL_law_144 ?_
  refine m_sld CL w (6 * j + 2) (nI_add _ _) (by omega) dL_law_145 ?_
  refine lv_aload_n hx hb dL_law_146 rfl (lv_at hl 1 rfl) ?_
  refine lv_iload_n hx hb dL_law_147 rfl (lv_at hl 0 rfl) ?_
  refine lv_iconst (v := 3) hx hb dL_law_148 (by decide) ?_
  refine lv_iadd hx hb dL_law_149 ?_
  refine m_sld CL w (6 * j + 3) (nI_add _ _) (by omega) dL_law_150 ?_
  refine m_callV C w hl.1 (As := [.int (xs (6 * j + 1)), .int (xs (6 * j + 2)), .int (xs (6 * j + 3))]) (rest := [.int (sp_lay S (xs (6 * j + 1)) (xs (6 * j + 2)) (xs (6 * j + 3))).1]) (r_lay l D y s.heap.size Mr Mc1 m0 B fr nc cl go bf cn S hW hQ j hI (xs (6 * j + 1)) (xs (6 * j + 2)) (xs (6 * j + 3))) gL_law_X4_lay rfl hW.1 (T := TX4) (N := 16) rfl (show (_ = _ ∧ _ ≠ _ ∧ _ ≠ _ ∧ _ = some 3) by decide +kernel) ⟨Nat.le_of_ble_eq_true rfl, Nat.le_of_ble_eq_true rfl⟩ rfl (Nat.le_of_ble_eq_true rfl) dL_law_151 ⟨by show _ ≤ 600000; omega, by show _ ≤ 7302250; omega⟩ (fun v M2 H locs hq w => ?_)
  obtain ⟨rfl, hRM1⟩ := hq
  have w := w.swap
  refine W.eq (g2 := F0 m 154 ls [.int (sp_lay S (xs (6 * j + 1)) (xs (6 * j + 2)) (xs (6 * j + 3))).1, .int (sp_lay S (xs (6 * j + 1)) (xs (6 * j + 2)) (xs (6 * j + 3))).1]) rfl ?_
  refine lv_icmp_eq (tgt := 768) hx hb dL_law_154 (by decide) (fun _ => ?_) (fun h => absurd rfl h)
  exact next _ _ _ _ _ ls hRC1 hRM1 (inv_lay hI hj5 (xs (6 * j + 1)) (xs (6 * j + 2)) (xs (6 * j + 3))) w hl
set_option maxRecDepth 100000 in
set_option maxHeartbeats 4000000 in
theorem law_ticket {p : Program} {l : Launch} {e : Env} {s : State} {m : MethodId} {below : List Frame} {meth : Method} {c : Code} {D : va_G} {y : mY} {b L : Nat} {xs : Nat → Int32} (CL : lwC p s m meth c b L xs D y) (q1 m0 j : Nat) (hj : 6 * j + 6 ≤ L) (S : St) (Mc Mr : mp) (hRC : RC y q1 S Mc) (hRM : RM y m0 S Mr) (hI : Inv j S) (H : Heap) (locs : List Loc) (ls : Array Slot) (w : mS D s.heap.size Mc Mr s H locs) (hl : lv_has ls 4 [(3, .int (nI (6 * j))), (0, .ref b), (1, .ref q1), (2, .ref m0)]) (next : (∀ (S' : St) (Mc' Mr' : mp) (H : Heap) (locs : List Loc) (ls : Array Slot), RC y q1 S' Mc' → RM y m0 S' Mr' → Inv (j + 1) S' → mS D s.heap.size Mc' Mr' s H locs → lv_has ls 4 [(3, .int (nI (6 * j))), (0, .ref b), (1, .ref q1), (2, .ref m0)] → W p l e room_1 s m #[Value.ref b] below meth c H locs (21 + 3 * (j + 1)) (35979 + 133 * (j + 1)) (lw_Z below #[Value.ref b] s) (F0 m 768 ls []))) : W p l e room_1 s m #[Value.ref b] below meth c H locs (21 + 3 * j) (35979 + 133 * j) (lw_Z below #[Value.ref b] s) (F0 m 159 ls []) := by
  have hL := CL.2.2.2
  have C := CL.1
  have hx := C.1
  have hb := C.2.1
  have hj5 : j + 1 ≤ 512 := by omega
  obtain ⟨A, tr, f, g, hC, hR⟩ := hRC
  obtain ⟨B, fr, nc, cl, go, bf, cn, hW, hQ⟩ := hRM
  refine lv_aload_n hx hb dL_law_159 rfl (lv_at hl 2 rfl) ?_
  refine lv_aload_n hx hb dL_law_160 rfl (lv_at hl 1 rfl) ?_
  refine lv_iload_n hx hb dL_law_161 rfl (lv_at hl 0 rfl) ?_
  refine lv_iconst (v := 1) hx hb dL_law_162 (by decide) ?_
  refine lv_iadd hx hb dL_law_163 ?_
  refine m_sld CL w (6 * j + 1) (nI_add _ _) (by omega) dL_law_164 ?_
  refine lv_aload_n hx hb dL_law_165 rfl (lv_at hl 1 rfl) ?_
  refine lv_iload_n hx hb dL_law_166 rfl (lv_at hl 0 rfl) ?_
  refine lv_iconst (v := 2) hx hb dL_law_167 (by decide) ?_
  refine lv_iadd hx hb dL_law_168 ?_
  refine m_sld CL w (6 * j + 2) (nI_add _ _) (by omega) dL_law_169 ?_
  refine lv_aload_n hx hb dL_law_170 rfl (lv_at hl 1 rfl) ?_
  refine lv_iload_n hx hb dL_law_171 rfl (lv_at hl 0 rfl) ?_
  refine lv_iconst (v := 3) hx hb dL_law_172 (by decide) ?_
  refine lv_iadd hx hb dL_law_173 ?_
  refine m_sld CL w (6 * j + 3) (nI_add _ _) (by omega) dL_law_174 ?_
  refine m_callV C w hl.1 (As := [.int (xs (6 * j + 1)), .int (xs (6 * j + 2)), .int (xs (6 * j + 3))]) (rest := []) (c_ticket l D y s.heap.size Mc Mr q1 A tr f g S hC j hI hR (xs (6 * j + 1)) (xs (6 * j + 2)) (xs (6 * j + 3))) gL_law_X3_ticket rfl hC.1.1 (T := TX3) (N := 7) rfl (show (_ = _ ∧ _ ≠ _ ∧ _ ≠ _ ∧ _ = some 3) by decide +kernel) ⟨Nat.le_of_ble_eq_true rfl, Nat.le_of_ble_eq_true rfl⟩ rfl (Nat.le_of_ble_eq_true rfl) dL_law_175 ⟨by show _ ≤ 600000; omega, by show _ ≤ 7302250; omega⟩ (fun v M1 H locs hq w => ?_)
  obtain ⟨rfl, hRC1⟩ := hq
  obtain ⟨Mc1, eMc1⟩ : ∃ z, z = M1 := ⟨_, rfl⟩
  rw [← eMc1] at w hRC1
  clear eMc1 M1
  refine W.widen (k := 21 + 3 * (j + 1)) (n := 35979 + 133 * (j + 1)) (by omega) (by omega) ?_
  have w := w.swap
  refine W.eq (g2 := F0 m 178 ls [.int (bI (sp_ticket S (xs (6 * j + 1)) (xs (6 * j + 2)) (xs (6 * j + 3))).1)]) rfl ?_
  refine lv_aload_n hx hb dL_law_178 rfl (lv_at hl 3 rfl) ?_
  refine lv_aload_n hx hb dL_law_179 rfl (lv_at hl 1 rfl) ?_
  refine lv_iload_n hx hb dL_law_180 rfl (lv_at hl 0 rfl) ?_
  refine lv_iconst (v := 1) hx hb dL_law_181 (by decide) ?_
  refine lv_iadd hx hb dL_law_182 ?_
  refine m_sld CL w (6 * j + 1) (nI_add _ _) (by omega) dL_law_183 ?_
  refine lv_aload_n hx hb dL_law_184 rfl (lv_at hl 1 rfl) ?_
  refine lv_iload_n hx hb dL_law_185 rfl (lv_at hl 0 rfl) ?_
  refine lv_iconst (v := 2) hx hb dL_law_186 (by decide) ?_
  refine lv_iadd hx hb dL_law_187 ?_
  refine m_sld CL w (6 * j + 2) (nI_add _ _) (by omega) dL_law_188 ?_
  refine lv_aload_n hx hb dL_law_189 rfl (lv_at hl 1 rfl) ?_
  refine lv_iload_n hx hb dL_law_190 rfl (lv_at hl 0 rfl) ?_
  refine lv_iconst (v := 3) hx hb dL_law_191 (by decide) ?_
  refine lv_iadd hx hb dL_law_192 ?_
  refine m_sld CL w (6 * j + 3) (nI_add _ _) (by omega) dL_law_193 ?_
  refine m_callV C w hl.1 (As := [.int (xs (6 * j + 1)), .int (xs (6 * j + 2)), .int (xs (6 * j + 3))]) (rest := [.int (bI (sp_ticket S (xs (6 * j + 1)) (xs (6 * j + 2)) (xs (6 * j + 3))).1)]) (r_ticket l D y s.heap.size Mr Mc1 m0 B fr nc cl go bf cn S hW hQ j hI (xs (6 * j + 1)) (xs (6 * j + 2)) (xs (6 * j + 3))) gL_law_X4_ticket rfl hW.1 (T := TX4) (N := 16) rfl (show (_ = _ ∧ _ ≠ _ ∧ _ ≠ _ ∧ _ = some 3) by decide +kernel) ⟨Nat.le_of_ble_eq_true rfl, Nat.le_of_ble_eq_true rfl⟩ rfl (Nat.le_of_ble_eq_true rfl) dL_law_194 ⟨by show _ ≤ 600000; omega, by show _ ≤ 7302250; omega⟩ (fun v M2 H locs hq w => ?_)
  obtain ⟨rfl, hRM1⟩ := hq
  have w := w.swap
  refine W.eq (g2 := F0 m 197 ls [.int (bI (sp_ticket S (xs (6 * j + 1)) (xs (6 * j + 2)) (xs (6 * j + 3))).1), .int (bI (sp_ticket S (xs (6 * j + 1)) (xs (6 * j + 2)) (xs (6 * j + 3))).1)]) rfl ?_
  refine lv_icmp_eq (tgt := 768) hx hb dL_law_197 (by decide) (fun _ => ?_) (fun h => absurd rfl h)
  exact next _ _ _ _ _ ls hRC1 hRM1 (inv_ticket hI hj5 (xs (6 * j + 1)) (xs (6 * j + 2)) (xs (6 * j + 3))) w hl
set_option maxRecDepth 100000 in
set_option maxHeartbeats 4000000 in
theorem law_share {p : Program} {l : Launch} {e : Env} {s : State} {m : MethodId} {below : List Frame} {meth : Method} {c : Code} {D : va_G} {y : mY} {b L : Nat} {xs : Nat → Int32} (CL : lwC p s m meth c b L xs D y) (q1 m0 j : Nat) (hj : 6 * j + 6 ≤ L) (S : St) (Mc Mr : mp) (hRC : RC y q1 S Mc) (hRM : RM y m0 S Mr) (hI : Inv j S) (H : Heap) (locs : List Loc) (ls : Array Slot) (w : mS D s.heap.size Mc Mr s H locs) (hl : lv_has ls 4 [(3, .int (nI (6 * j))), (0, .ref b), (1, .ref q1), (2, .ref m0)]) (next : (∀ (S' : St) (Mc' Mr' : mp) (H : Heap) (locs : List Loc) (ls : Array Slot), RC y q1 S' Mc' → RM y m0 S' Mr' → Inv (j + 1) S' → mS D s.heap.size Mc' Mr' s H locs → lv_has ls 4 [(3, .int (nI (6 * j))), (0, .ref b), (1, .ref q1), (2, .ref m0)] → W p l e room_1 s m #[Value.ref b] below meth c H locs (21 + 3 * (j + 1)) (35979 + 133 * (j + 1)) (lw_Z below #[Value.ref b] s) (F0 m 768 ls []))) : W p l e room_1 s m #[Value.ref b] below meth c H locs (21 + 3 * j) (35979 + 133 * j) (lw_Z below #[Value.ref b] s) (F0 m 202 ls []) := by
  have hL := CL.2.2.2
  have C := CL.1
  have hx := C.1
  have hb := C.2.1
  have hj5 : j + 1 ≤ 512 := by omega
  obtain ⟨A, tr, f, g, hC, hR⟩ := hRC
  obtain ⟨B, fr, nc, cl, go, bf, cn, hW, hQ⟩ := hRM
  refine lv_aload_n hx hb dL_law_202 rfl (lv_at hl 2 rfl) ?_
  refine lv_aload_n hx hb dL_law_203 rfl (lv_at hl 1 rfl) ?_
  refine lv_iload_n hx hb dL_law_204 rfl (lv_at hl 0 rfl) ?_
  refine lv_iconst (v := 1) hx hb dL_law_205 (by decide) ?_
  refine lv_iadd hx hb dL_law_206 ?_
  refine m_sld CL w (6 * j + 1) (nI_add _ _) (by omega) dL_law_207 ?_
  refine lv_aload_n hx hb dL_law_208 rfl (lv_at hl 1 rfl) ?_
  refine lv_iload_n hx hb dL_law_209 rfl (lv_at hl 0 rfl) ?_
  refine lv_iconst (v := 2) hx hb dL_law_210 (by decide) ?_
  refine lv_iadd hx hb dL_law_211 ?_
  refine m_sld CL w (6 * j + 2) (nI_add _ _) (by omega) dL_law_212 ?_
  refine m_callV C w hl.1 (As := [.int (xs (6 * j + 1)), .int (xs (6 * j + 2))]) (rest := []) (c_share l D y s.heap.size Mc Mr q1 A tr f g S hC j hI hR (xs (6 * j + 1)) (xs (6 * j + 2))) gL_law_X3_share rfl hC.1.1 (T := TX3) (N := 7) rfl (show (_ = _ ∧ _ ≠ _ ∧ _ ≠ _ ∧ _ = some 2) by decide +kernel) ⟨Nat.le_of_ble_eq_true rfl, Nat.le_of_ble_eq_true rfl⟩ rfl (Nat.le_of_ble_eq_true rfl) dL_law_213 ⟨by show _ ≤ 600000; omega, by show _ ≤ 7302250; omega⟩ (fun v M1 H locs hq w => ?_)
  obtain ⟨rfl, hRC1⟩ := hq
  obtain ⟨Mc1, eMc1⟩ : ∃ z, z = M1 := ⟨_, rfl⟩
  rw [← eMc1] at w hRC1
  clear eMc1 M1
  refine W.widen (k := 21 + 3 * (j + 1)) (n := 35979 + 133 * (j + 1)) (by omega) (by omega) ?_
  have w := w.swap
  refine W.eq (g2 := F0 m 216 ls [.int (sp_share S (xs (6 * j + 1)) (xs (6 * j + 2))).1]) rfl ?_
  refine lv_aload_n hx hb dL_law_216 rfl (lv_at hl 3 rfl) ?_
  refine lv_aload_n hx hb dL_law_217 rfl (lv_at hl 1 rfl) ?_
  refine lv_iload_n hx hb dL_law_218 rfl (lv_at hl 0 rfl) ?_
  refine lv_iconst (v := 1) hx hb dL_law_219 (by decide) ?_
  refine lv_iadd hx hb dL_law_220 ?_
  refine m_sld CL w (6 * j + 1) (nI_add _ _) (by omega) dL_law_221 ?_
  refine lv_aload_n hx hb dL_law_222 rfl (lv_at hl 1 rfl) ?_
  refine lv_iload_n hx hb dL_law_223 rfl (lv_at hl 0 rfl) ?_
  refine lv_iconst (v := 2) hx hb dL_law_224 (by decide) ?_
  refine lv_iadd hx hb dL_law_225 ?_
  refine m_sld CL w (6 * j + 2) (nI_add _ _) (by omega) dL_law_226 ?_
  refine m_callV C w hl.1 (As := [.int (xs (6 * j + 1)), .int (xs (6 * j + 2))]) (rest := [.int (sp_share S (xs (6 * j + 1)) (xs (6 * j + 2))).1]) (r_share l D y s.heap.size Mr Mc1 m0 B fr nc cl go bf cn S hW hQ j hI (xs (6 * j + 1)) (xs (6 * j + 2))) gL_law_X4_share rfl hW.1 (T := TX4) (N := 16) rfl (show (_ = _ ∧ _ ≠ _ ∧ _ ≠ _ ∧ _ = some 2) by decide +kernel) ⟨Nat.le_of_ble_eq_true rfl, Nat.le_of_ble_eq_true rfl⟩ rfl (Nat.le_of_ble_eq_true rfl) dL_law_227 ⟨by show _ ≤ 600000; omega, by show _ ≤ 7302250; omega⟩ (fun v M2 H locs hq w => ?_)
  obtain ⟨rfl, hRM1⟩ := hq
  have w := w.swap
  refine W.eq (g2 := F0 m 230 ls [.int (sp_share S (xs (6 * j + 1)) (xs (6 * j + 2))).1, .int (sp_share S (xs (6 * j + 1)) (xs (6 * j + 2))).1]) rfl ?_
  refine lv_icmp_eq (tgt := 768) hx hb dL_law_230 (by decide) (fun _ => ?_) (fun h => absurd rfl h)
  exact next _ _ _ _ _ ls hRC1 hRM1 (inv_share hI hj5 (xs (6 * j + 1)) (xs (6 * j + 2))) w hl
set_option maxRecDepth 100000 in
set_option maxHeartbeats 4000000 in
theorem law_put {p : Program} {l : Launch} {e : Env} {s : State} {m : MethodId} {below : List Frame} {meth : Method} {c : Code} {D : va_G} {y : mY} {b L : Nat} {xs : Nat → Int32} (CL : lwC p s m meth c b L xs D y) (q1 m0 j : Nat) (hj : 6 * j + 6 ≤ L) (S : St) (Mc Mr : mp) (hRC : RC y q1 S Mc) (hRM : RM y m0 S Mr) (hI : Inv j S) (H : Heap) (locs : List Loc) (ls : Array Slot) (w : mS D s.heap.size Mc Mr s H locs) (hl : lv_has ls 4 [(3, .int (nI (6 * j))), (0, .ref b), (1, .ref q1), (2, .ref m0)]) (next : (∀ (S' : St) (Mc' Mr' : mp) (H : Heap) (locs : List Loc) (ls : Array Slot), RC y q1 S' Mc' → RM y m0 S' Mr' → Inv (j + 1) S' → mS D s.heap.size Mc' Mr' s H locs → lv_has ls 4 [(3, .int (nI (6 * j))), (0, .ref b), (1, .ref q1), (2, .ref m0)] → W p l e room_1 s m #[Value.ref b] below meth c H locs (21 + 3 * (j + 1)) (35979 + 133 * (j + 1)) (lw_Z below #[Value.ref b] s) (F0 m 768 ls []))) : W p l e room_1 s m #[Value.ref b] below meth c H locs (21 + 3 * j) (35979 + 133 * j) (lw_Z below #[Value.ref b] s) (F0 m 235 ls []) := by
  have hL := CL.2.2.2
  have C := CL.1
  have hx := C.1
  have hb := C.2.1
  have hj5 : j + 1 ≤ 512 := by omega
  obtain ⟨A, tr, f, g, hC, hR⟩ := hRC
  obtain ⟨B, fr, nc, cl, go, bf, cn, hW, hQ⟩ := hRM
  refine lv_aload_n hx hb dL_law_235 rfl (lv_at hl 2 rfl) ?_
  refine lv_aload_n hx hb dL_law_236 rfl (lv_at hl 1 rfl) ?_
  refine lv_iload_n hx hb dL_law_237 rfl (lv_at hl 0 rfl) ?_
  refine lv_iconst (v := 1) hx hb dL_law_238 (by decide) ?_
  refine lv_iadd hx hb dL_law_239 ?_
  refine m_sld CL w (6 * j + 1) (nI_add _ _) (by omega) dL_law_240 ?_
  refine lv_aload_n hx hb dL_law_241 rfl (lv_at hl 1 rfl) ?_
  refine lv_iload_n hx hb dL_law_242 rfl (lv_at hl 0 rfl) ?_
  refine lv_iconst (v := 2) hx hb dL_law_243 (by decide) ?_
  refine lv_iadd hx hb dL_law_244 ?_
  refine m_sld CL w (6 * j + 2) (nI_add _ _) (by omega) dL_law_245 ?_
  refine lv_aload_n hx hb dL_law_246 rfl (lv_at hl 1 rfl) ?_
  refine lv_iload_n hx hb dL_law_247 rfl (lv_at hl 0 rfl) ?_
  refine lv_iconst (v := 3) hx hb dL_law_248 (by decide) ?_
  refine lv_iadd hx hb dL_law_249 ?_
  refine m_sld CL w (6 * j + 3) (nI_add _ _) (by omega) dL_law_250 ?_
  refine m_callV C w hl.1 (As := [.int (xs (6 * j + 1)), .int (xs (6 * j + 2)), .int (xs (6 * j + 3))]) (rest := []) (c_put l D y s.heap.size Mc Mr q1 A tr f g S hC j hI hR hj5 (xs (6 * j + 1)) (xs (6 * j + 2)) (xs (6 * j + 3))) gL_law_X3_put rfl hC.1.1 (T := TX3) (N := 7) rfl (show (_ = _ ∧ _ ≠ _ ∧ _ ≠ _ ∧ _ = some 3) by decide +kernel) ⟨Nat.le_of_ble_eq_true rfl, Nat.le_of_ble_eq_true rfl⟩ rfl (Nat.le_of_ble_eq_true rfl) dL_law_251 ⟨by show _ ≤ 600000; omega, by show _ ≤ 7302250; omega⟩ (fun v M1 H locs hq w => ?_)
  obtain ⟨rfl, hRC1⟩ := hq
  obtain ⟨Mc1, eMc1⟩ : ∃ z, z = M1 := ⟨_, rfl⟩
  rw [← eMc1] at w hRC1
  clear eMc1 M1
  refine W.widen (k := 21 + 3 * (j + 1)) (n := 35979 + 133 * (j + 1)) (by omega) (by omega) ?_
  have w := w.swap
  refine W.eq (g2 := F0 m 254 ls [.int (sp_put S (xs (6 * j + 1)) (xs (6 * j + 2)) (xs (6 * j + 3))).1]) rfl ?_
  refine lv_aload_n hx hb dL_law_254 rfl (lv_at hl 3 rfl) ?_
  refine lv_aload_n hx hb dL_law_255 rfl (lv_at hl 1 rfl) ?_
  refine lv_iload_n hx hb dL_law_256 rfl (lv_at hl 0 rfl) ?_
  refine lv_iconst (v := 1) hx hb dL_law_257 (by decide) ?_
  refine lv_iadd hx hb dL_law_258 ?_
  refine m_sld CL w (6 * j + 1) (nI_add _ _) (by omega) dL_law_259 ?_
  refine lv_aload_n hx hb dL_law_260 rfl (lv_at hl 1 rfl) ?_
  refine lv_iload_n hx hb dL_law_261 rfl (lv_at hl 0 rfl) ?_
  refine lv_iconst (v := 2) hx hb dL_law_262 (by decide) ?_
  refine lv_iadd hx hb dL_law_263 ?_
  refine m_sld CL w (6 * j + 2) (nI_add _ _) (by omega) dL_law_264 ?_
  refine lv_aload_n hx hb dL_law_265 rfl (lv_at hl 1 rfl) ?_
  refine lv_iload_n hx hb dL_law_266 rfl (lv_at hl 0 rfl) ?_
  refine lv_iconst (v := 3) hx hb dL_law_267 (by decide) ?_
  refine lv_iadd hx hb dL_law_268 ?_
  refine m_sld CL w (6 * j + 3) (nI_add _ _) (by omega) dL_law_269 ?_
  refine m_callV C w hl.1 (As := [.int (xs (6 * j + 1)), .int (xs (6 * j + 2)), .int (xs (6 * j + 3))]) (rest := [.int (sp_put S (xs (6 * j + 1)) (xs (6 * j + 2)) (xs (6 * j + 3))).1]) (r_put l D y s.heap.size Mr Mc1 m0 B fr nc cl go bf cn S hW hQ j hI hj5 (xs (6 * j + 1)) (xs (6 * j + 2)) (xs (6 * j + 3))) gL_law_X4_put rfl hW.1 (T := TX4) (N := 16) rfl (show (_ = _ ∧ _ ≠ _ ∧ _ ≠ _ ∧ _ = some 3) by decide +kernel) ⟨Nat.le_of_ble_eq_true rfl, Nat.le_of_ble_eq_true rfl⟩ rfl (Nat.le_of_ble_eq_true rfl) dL_law_270 ⟨by show _ ≤ 600000; omega, by show _ ≤ 7302250; omega⟩ (fun v M2 H locs hq w => ?_)
  obtain ⟨rfl, hRM1⟩ := hq
  have w := w.swap
  refine W.eq (g2 := F0 m 273 ls [.int (sp_put S (xs (6 * j + 1)) (xs (6 * j + 2)) (xs (6 * j + 3))).1, .int (sp_put S (xs (6 * j + 1)) (xs (6 * j + 2)) (xs (6 * j + 3))).1]) rfl ?_
  refine lv_icmp_eq (tgt := 768) hx hb dL_law_273 (by decide) (fun _ => ?_) (fun h => absurd rfl h)
  exact next _ _ _ _ _ ls hRC1 hRM1 (inv_put hI hj5 (xs (6 * j + 1)) (xs (6 * j + 2)) (xs (6 * j + 3))) w hl
set_option maxRecDepth 100000 in
set_option maxHeartbeats 4000000 in
theorem law_move {p : Program} {l : Launch} {e : Env} {s : State} {m : MethodId} {below : List Frame} {meth : Method} {c : Code} {D : va_G} {y : mY} {b L : Nat} {xs : Nat → Int32} (CL : lwC p s m meth c b L xs D y) (q1 m0 j : Nat) (hj : 6 * j + 6 ≤ L) (S : St) (Mc Mr : mp) (hRC : RC y q1 S Mc) (hRM : RM y m0 S Mr) (hI : Inv j S) (H : Heap) (locs : List Loc) (ls : Array Slot) (w : mS D s.heap.size Mc Mr s H locs) (hl : lv_has ls 4 [(3, .int (nI (6 * j))), (0, .ref b), (1, .ref q1), (2, .ref m0)]) (next : (∀ (S' : St) (Mc' Mr' : mp) (H : Heap) (locs : List Loc) (ls : Array Slot), RC y q1 S' Mc' → RM y m0 S' Mr' → Inv (j + 1) S' → mS D s.heap.size Mc' Mr' s H locs → lv_has ls 4 [(3, .int (nI (6 * j))), (0, .ref b), (1, .ref q1), (2, .ref m0)] → W p l e room_1 s m #[Value.ref b] below meth c H locs (21 + 3 * (j + 1)) (35979 + 133 * (j + 1)) (lw_Z below #[Value.ref b] s) (F0 m 768 ls []))) : W p l e room_1 s m #[Value.ref b] below meth c H locs (21 + 3 * j) (35979 + 133 * j) (lw_Z below #[Value.ref b] s) (F0 m 278 ls []) := by
  have hL := CL.2.2.2
  have C := CL.1
  have hx := C.1
  have hb := C.2.1
  have hj5 : j + 1 ≤ 512 := by omega
  obtain ⟨A, tr, f, g, hC, hR⟩ := hRC
  obtain ⟨B, fr, nc, cl, go, bf, cn, hW, hQ⟩ := hRM
  refine lv_aload_n hx hb dL_law_278 rfl (lv_at hl 2 rfl) ?_
  refine lv_aload_n hx hb dL_law_279 rfl (lv_at hl 1 rfl) ?_
  refine lv_iload_n hx hb dL_law_280 rfl (lv_at hl 0 rfl) ?_
  refine lv_iconst (v := 1) hx hb dL_law_281 (by decide) ?_
  refine lv_iadd hx hb dL_law_282 ?_
  refine m_sld CL w (6 * j + 1) (nI_add _ _) (by omega) dL_law_283 ?_
  refine lv_aload_n hx hb dL_law_284 rfl (lv_at hl 1 rfl) ?_
  refine lv_iload_n hx hb dL_law_285 rfl (lv_at hl 0 rfl) ?_
  refine lv_iconst (v := 2) hx hb dL_law_286 (by decide) ?_
  refine lv_iadd hx hb dL_law_287 ?_
  refine m_sld CL w (6 * j + 2) (nI_add _ _) (by omega) dL_law_288 ?_
  refine lv_aload_n hx hb dL_law_289 rfl (lv_at hl 1 rfl) ?_
  refine lv_iload_n hx hb dL_law_290 rfl (lv_at hl 0 rfl) ?_
  refine lv_iconst (v := 3) hx hb dL_law_291 (by decide) ?_
  refine lv_iadd hx hb dL_law_292 ?_
  refine m_sld CL w (6 * j + 3) (nI_add _ _) (by omega) dL_law_293 ?_
  refine lv_aload_n hx hb dL_law_294 rfl (lv_at hl 1 rfl) ?_
  refine lv_iload_n hx hb dL_law_295 rfl (lv_at hl 0 rfl) ?_
  refine lv_iconst (v := 4) hx hb dL_law_296 (by decide) ?_
  refine lv_iadd hx hb dL_law_297 ?_
  refine m_sld CL w (6 * j + 4) (nI_add _ _) (by omega) dL_law_298 ?_
  refine lv_aload_n hx hb dL_law_299 rfl (lv_at hl 1 rfl) ?_
  refine lv_iload_n hx hb dL_law_300 rfl (lv_at hl 0 rfl) ?_
  refine lv_iconst (v := 5) hx hb dL_law_301 (by decide) ?_
  refine lv_iadd hx hb dL_law_302 ?_
  refine m_sld CL w (6 * j + 5) (nI_add _ _) (by omega) dL_law_303 ?_
  refine m_callV C w hl.1 (As := [.int (xs (6 * j + 1)), .int (xs (6 * j + 2)), .int (xs (6 * j + 3)), .int (xs (6 * j + 4)), .int (xs (6 * j + 5))]) (rest := []) (c_move l D y s.heap.size Mc Mr q1 A tr f g S hC j hI hR (xs (6 * j + 1)) (xs (6 * j + 2)) (xs (6 * j + 3)) (xs (6 * j + 4)) (xs (6 * j + 5))) gL_law_X3_move rfl hC.1.1 (T := TX3) (N := 7) rfl (show (_ = _ ∧ _ ≠ _ ∧ _ ≠ _ ∧ _ = some 5) by decide +kernel) ⟨Nat.le_of_ble_eq_true rfl, Nat.le_of_ble_eq_true rfl⟩ rfl (Nat.le_of_ble_eq_true rfl) dL_law_304 ⟨by show _ ≤ 600000; omega, by show _ ≤ 7302250; omega⟩ (fun v M1 H locs hq w => ?_)
  obtain ⟨rfl, hRC1⟩ := hq
  obtain ⟨Mc1, eMc1⟩ : ∃ z, z = M1 := ⟨_, rfl⟩
  rw [← eMc1] at w hRC1
  clear eMc1 M1
  refine W.widen (k := 21 + 3 * (j + 1)) (n := 35979 + 133 * (j + 1)) (by omega) (by omega) ?_
  have w := w.swap
  refine W.eq (g2 := F0 m 307 ls [.int (sp_move S (xs (6 * j + 1)) (xs (6 * j + 2)) (xs (6 * j + 3)) (xs (6 * j + 4)) (xs (6 * j + 5))).1]) rfl ?_
  refine lv_aload_n hx hb dL_law_307 rfl (lv_at hl 3 rfl) ?_
  refine lv_aload_n hx hb dL_law_308 rfl (lv_at hl 1 rfl) ?_
  refine lv_iload_n hx hb dL_law_309 rfl (lv_at hl 0 rfl) ?_
  refine lv_iconst (v := 1) hx hb dL_law_310 (by decide) ?_
  refine lv_iadd hx hb dL_law_311 ?_
  refine m_sld CL w (6 * j + 1) (nI_add _ _) (by omega) dL_law_312 ?_
  refine lv_aload_n hx hb dL_law_313 rfl (lv_at hl 1 rfl) ?_
  refine lv_iload_n hx hb dL_law_314 rfl (lv_at hl 0 rfl) ?_
  refine lv_iconst (v := 2) hx hb dL_law_315 (by decide) ?_
  refine lv_iadd hx hb dL_law_316 ?_
  refine m_sld CL w (6 * j + 2) (nI_add _ _) (by omega) dL_law_317 ?_
  refine lv_aload_n hx hb dL_law_318 rfl (lv_at hl 1 rfl) ?_
  refine lv_iload_n hx hb dL_law_319 rfl (lv_at hl 0 rfl) ?_
  refine lv_iconst (v := 3) hx hb dL_law_320 (by decide) ?_
  refine lv_iadd hx hb dL_law_321 ?_
  refine m_sld CL w (6 * j + 3) (nI_add _ _) (by omega) dL_law_322 ?_
  refine lv_aload_n hx hb dL_law_323 rfl (lv_at hl 1 rfl) ?_
  refine lv_iload_n hx hb dL_law_324 rfl (lv_at hl 0 rfl) ?_
  refine lv_iconst (v := 4) hx hb dL_law_325 (by decide) ?_
  refine lv_iadd hx hb dL_law_326 ?_
  refine m_sld CL w (6 * j + 4) (nI_add _ _) (by omega) dL_law_327 ?_
  refine lv_aload_n hx hb dL_law_328 rfl (lv_at hl 1 rfl) ?_
  refine lv_iload_n hx hb dL_law_329 rfl (lv_at hl 0 rfl) ?_
  refine lv_iconst (v := 5) hx hb dL_law_330 (by decide) ?_
  refine lv_iadd hx hb dL_law_331 ?_
  refine m_sld CL w (6 * j + 5) (nI_add _ _) (by omega) dL_law_332 ?_
  refine m_callV C w hl.1 (As := [.int (xs (6 * j + 1)), .int (xs (6 * j + 2)), .int (xs (6 * j + 3)), .int (xs (6 * j + 4)), .int (xs (6 * j + 5))]) (rest := [.int (sp_move S (xs (6 * j + 1)) (xs (6 * j + 2)) (xs (6 * j + 3)) (xs (6 * j + 4)) (xs (6 * j + 5))).1]) (r_move l D y s.heap.size Mr Mc1 m0 B fr nc cl go bf cn S hW hQ j hI (xs (6 * j + 1)) (xs (6 * j + 2)) (xs (6 * j + 3)) (xs (6 * j + 4)) (xs (6 * j + 5))) gL_law_X4_move rfl hW.1 (T := TX4) (N := 16) rfl (show (_ = _ ∧ _ ≠ _ ∧ _ ≠ _ ∧ _ = some 5) by decide +kernel) ⟨Nat.le_of_ble_eq_true rfl, Nat.le_of_ble_eq_true rfl⟩ rfl (Nat.le_of_ble_eq_true rfl) dL_law_333 ⟨by show _ ≤ 600000; omega, by show _ ≤ 7302250; omega⟩ (fun v M2 H locs hq w => ?_)
  obtain ⟨rfl, hRM1⟩ := hq
  have w := w.swap
  refine W.eq (g2 := F0 m 336 ls [.int (sp_move S (xs (6 * j + 1)) (xs (6 * j + 2)) (xs (6 * j + 3)) (xs (6 * j + 4)) (xs (6 * j + 5))).1, .int (sp_move S (xs (6 * j + 1)) (xs (6 * j + 2)) (xs (6 * j + 3)) (xs (6 * j + 4)) (xs (6 * j + 5))).1]) rfl ?_
  refine lv_icmp_eq (tgt := 768) hx hb dL_law_336 (by decide) (fun _ => ?_) (fun h => absurd rfl h)
  exact next _ _ _ _ _ ls hRC1 hRM1 (inv_move hI hj5 (xs (6 * j + 1)) (xs (6 * j + 2)) (xs (6 * j + 3)) (xs (6 * j + 4)) (xs (6 * j + 5))) w hl
set_option maxRecDepth 100000 in
set_option maxHeartbeats 4000000 in
theorem law_open {p : Program} {l : Launch} {e : Env} {s : State} {m : MethodId} {below : List Frame} {meth : Method} {c : Code} {D : va_G} {y : mY} {b L : Nat} {xs : Nat → Int32} (CL : lwC p s m meth c b L xs D y) (q1 m0 j : Nat) (hj : 6 * j + 6 ≤ L) (S : St) (Mc Mr : mp) (hRC : RC y q1 S Mc) (hRM : RM y m0 S Mr) (hI : Inv j S) (H : Heap) (locs : List Loc) (ls : Array Slot) (w : mS D s.heap.size Mc Mr s H locs) (hl : lv_has ls 4 [(3, .int (nI (6 * j))), (0, .ref b), (1, .ref q1), (2, .ref m0)]) (next : (∀ (S' : St) (Mc' Mr' : mp) (H : Heap) (locs : List Loc) (ls : Array Slot), RC y q1 S' Mc' → RM y m0 S' Mr' → Inv (j + 1) S' → mS D s.heap.size Mc' Mr' s H locs → lv_has ls 4 [(3, .int (nI (6 * j))), (0, .ref b), (1, .ref q1), (2, .ref m0)] → W p l e room_1 s m #[Value.ref b] below meth c H locs (21 + 3 * (j + 1)) (35979 + 133 * (j + 1)) (lw_Z below #[Value.ref b] s) (F0 m 768 ls []))) : W p l e room_1 s m #[Value.ref b] below meth c H locs (21 + 3 * j) (35979 + 133 * j) (lw_Z below #[Value.ref b] s) (F0 m 341 ls []) := by
  have hL := CL.2.2.2
  have C := CL.1
  have hx := C.1
  have hb := C.2.1
  have hj5 : j + 1 ≤ 512 := by omega
  obtain ⟨A, tr, f, g, hC, hR⟩ := hRC
  obtain ⟨B, fr, nc, cl, go, bf, cn, hW, hQ⟩ := hRM
  refine lv_aload_n hx hb dL_law_341 rfl (lv_at hl 2 rfl) ?_
  refine lv_aload_n hx hb dL_law_342 rfl (lv_at hl 1 rfl) ?_
  refine lv_iload_n hx hb dL_law_343 rfl (lv_at hl 0 rfl) ?_
  refine lv_iconst (v := 1) hx hb dL_law_344 (by decide) ?_
  refine lv_iadd hx hb dL_law_345 ?_
  refine m_sld CL w (6 * j + 1) (nI_add _ _) (by omega) dL_law_346 ?_
  refine lv_aload_n hx hb dL_law_347 rfl (lv_at hl 1 rfl) ?_
  refine lv_iload_n hx hb dL_law_348 rfl (lv_at hl 0 rfl) ?_
  refine lv_iconst (v := 2) hx hb dL_law_349 (by decide) ?_
  refine lv_iadd hx hb dL_law_350 ?_
  refine m_sld CL w (6 * j + 2) (nI_add _ _) (by omega) dL_law_351 ?_
  refine lv_aload_n hx hb dL_law_352 rfl (lv_at hl 1 rfl) ?_
  refine lv_iload_n hx hb dL_law_353 rfl (lv_at hl 0 rfl) ?_
  refine lv_iconst (v := 3) hx hb dL_law_354 (by decide) ?_
  refine lv_iadd hx hb dL_law_355 ?_
  refine m_sld CL w (6 * j + 3) (nI_add _ _) (by omega) dL_law_356 ?_
  refine m_callV C w hl.1 (As := [.int (xs (6 * j + 1)), .int (xs (6 * j + 2)), .int (xs (6 * j + 3))]) (rest := []) (c_open l D y s.heap.size Mc Mr q1 A tr f g S hC j hI hR (xs (6 * j + 1)) (xs (6 * j + 2)) (xs (6 * j + 3))) gL_law_X3_open rfl hC.1.1 (T := TX3) (N := 7) rfl (show (_ = _ ∧ _ ≠ _ ∧ _ ≠ _ ∧ _ = some 3) by decide +kernel) ⟨Nat.le_of_ble_eq_true rfl, Nat.le_of_ble_eq_true rfl⟩ rfl (Nat.le_of_ble_eq_true rfl) dL_law_357 ⟨by show _ ≤ 600000; omega, by show _ ≤ 7302250; omega⟩ (fun v M1 H locs hq w => ?_)
  obtain ⟨rfl, hRC1⟩ := hq
  obtain ⟨Mc1, eMc1⟩ : ∃ z, z = M1 := ⟨_, rfl⟩
  rw [← eMc1] at w hRC1
  clear eMc1 M1
  refine W.widen (k := 21 + 3 * (j + 1)) (n := 35979 + 133 * (j + 1)) (by omega) (by omega) ?_
  have w := w.swap
  refine W.eq (g2 := F0 m 360 ls [.int (sp_open S (xs (6 * j + 1)) (xs (6 * j + 2)) (xs (6 * j + 3))).1]) rfl ?_
  refine lv_aload_n hx hb dL_law_360 rfl (lv_at hl 3 rfl) ?_
  refine lv_aload_n hx hb dL_law_361 rfl (lv_at hl 1 rfl) ?_
  refine lv_iload_n hx hb dL_law_362 rfl (lv_at hl 0 rfl) ?_
  refine lv_iconst (v := 1) hx hb dL_law_363 (by decide) ?_
  refine lv_iadd hx hb dL_law_364 ?_
  refine m_sld CL w (6 * j + 1) (nI_add _ _) (by omega) dL_law_365 ?_
  refine lv_aload_n hx hb dL_law_366 rfl (lv_at hl 1 rfl) ?_
  refine lv_iload_n hx hb dL_law_367 rfl (lv_at hl 0 rfl) ?_
  refine lv_iconst (v := 2) hx hb dL_law_368 (by decide) ?_
  refine lv_iadd hx hb dL_law_369 ?_
  refine m_sld CL w (6 * j + 2) (nI_add _ _) (by omega) dL_law_370 ?_
  refine lv_aload_n hx hb dL_law_371 rfl (lv_at hl 1 rfl) ?_
  refine lv_iload_n hx hb dL_law_372 rfl (lv_at hl 0 rfl) ?_
  refine lv_iconst (v := 3) hx hb dL_law_373 (by decide) ?_
  refine lv_iadd hx hb dL_law_374 ?_
  refine m_sld CL w (6 * j + 3) (nI_add _ _) (by omega) dL_law_375 ?_
  refine m_callV C w hl.1 (As := [.int (xs (6 * j + 1)), .int (xs (6 * j + 2)), .int (xs (6 * j + 3))]) (rest := [.int (sp_open S (xs (6 * j + 1)) (xs (6 * j + 2)) (xs (6 * j + 3))).1]) (r_open l D y s.heap.size Mr Mc1 m0 B fr nc cl go bf cn S hW hQ j hI (xs (6 * j + 1)) (xs (6 * j + 2)) (xs (6 * j + 3))) gL_law_X4_open rfl hW.1 (T := TX4) (N := 16) rfl (show (_ = _ ∧ _ ≠ _ ∧ _ ≠ _ ∧ _ = some 3) by decide +kernel) ⟨Nat.le_of_ble_eq_true rfl, Nat.le_of_ble_eq_true rfl⟩ rfl (Nat.le_of_ble_eq_true rfl) dL_law_376 ⟨by show _ ≤ 600000; omega, by show _ ≤ 7302250; omega⟩ (fun v M2 H locs hq w => ?_)
  obtain ⟨rfl, hRM1⟩ := hq
  have w := w.swap
  refine W.eq (g2 := F0 m 379 ls [.int (sp_open S (xs (6 * j + 1)) (xs (6 * j + 2)) (xs (6 * j + 3))).1, .int (sp_open S (xs (6 * j + 1)) (xs (6 * j + 2)) (xs (6 * j + 3))).1]) rfl ?_
  refine lv_icmp_eq (tgt := 768) hx hb dL_law_379 (by decide) (fun _ => ?_) (fun h => absurd rfl h)
  exact next _ _ _ _ _ ls hRC1 hRM1 (inv_open hI hj5 (xs (6 * j + 1)) (xs (6 * j + 2)) (xs (6 * j + 3))) w hl
set_option maxRecDepth 100000 in
set_option maxHeartbeats 4000000 in
theorem law_close {p : Program} {l : Launch} {e : Env} {s : State} {m : MethodId} {below : List Frame} {meth : Method} {c : Code} {D : va_G} {y : mY} {b L : Nat} {xs : Nat → Int32} (CL : lwC p s m meth c b L xs D y) (q1 m0 j : Nat) (hj : 6 * j + 6 ≤ L) (S : St) (Mc Mr : mp) (hRC : RC y q1 S Mc) (hRM : RM y m0 S Mr) (hI : Inv j S) (H : Heap) (locs : List Loc) (ls : Array Slot) (w : mS D s.heap.size Mc Mr s H locs) (hl : lv_has ls 4 [(3, .int (nI (6 * j))), (0, .ref b), (1, .ref q1), (2, .ref m0)]) (next : (∀ (S' : St) (Mc' Mr' : mp) (H : Heap) (locs : List Loc) (ls : Array Slot), RC y q1 S' Mc' → RM y m0 S' Mr' → Inv (j + 1) S' → mS D s.heap.size Mc' Mr' s H locs → lv_has ls 4 [(3, .int (nI (6 * j))), (0, .ref b), (1, .ref q1), (2, .ref m0)] → W p l e room_1 s m #[Value.ref b] below meth c H locs (21 + 3 * (j + 1)) (35979 + 133 * (j + 1)) (lw_Z below #[Value.ref b] s) (F0 m 768 ls []))) : W p l e room_1 s m #[Value.ref b] below meth c H locs (21 + 3 * j) (35979 + 133 * j) (lw_Z below #[Value.ref b] s) (F0 m 384 ls []) := by
  have hL := CL.2.2.2
  have C := CL.1
  have hx := C.1
  have hb := C.2.1
  have hj5 : j + 1 ≤ 512 := by omega
  obtain ⟨A, tr, f, g, hC, hR⟩ := hRC
  obtain ⟨B, fr, nc, cl, go, bf, cn, hW, hQ⟩ := hRM
  refine lv_aload_n hx hb dL_law_384 rfl (lv_at hl 2 rfl) ?_
  refine lv_aload_n hx hb dL_law_385 rfl (lv_at hl 1 rfl) ?_
  refine lv_iload_n hx hb dL_law_386 rfl (lv_at hl 0 rfl) ?_
  refine lv_iconst (v := 1) hx hb dL_law_387 (by decide) ?_
  refine lv_iadd hx hb dL_law_388 ?_
  refine m_sld CL w (6 * j + 1) (nI_add _ _) (by omega) dL_law_389 ?_
  refine lv_aload_n hx hb dL_law_390 rfl (lv_at hl 1 rfl) ?_
  refine lv_iload_n hx hb dL_law_391 rfl (lv_at hl 0 rfl) ?_
  refine lv_iconst (v := 2) hx hb dL_law_392 (by decide) ?_
  refine lv_iadd hx hb dL_law_393 ?_
  refine m_sld CL w (6 * j + 2) (nI_add _ _) (by omega) dL_law_394 ?_
  refine lv_aload_n hx hb dL_law_395 rfl (lv_at hl 1 rfl) ?_
  refine lv_iload_n hx hb dL_law_396 rfl (lv_at hl 0 rfl) ?_
  refine lv_iconst (v := 3) hx hb dL_law_397 (by decide) ?_
  refine lv_iadd hx hb dL_law_398 ?_
  refine m_sld CL w (6 * j + 3) (nI_add _ _) (by omega) dL_law_399 ?_
  refine m_callV C w hl.1 (As := [.int (xs (6 * j + 1)), .int (xs (6 * j + 2)), .int (xs (6 * j + 3))]) (rest := []) (c_close l D y s.heap.size Mc Mr q1 A tr f g S hC j hI hR (xs (6 * j + 1)) (xs (6 * j + 2)) (xs (6 * j + 3))) gL_law_X3_close rfl hC.1.1 (T := TX3) (N := 7) rfl (show (_ = _ ∧ _ ≠ _ ∧ _ ≠ _ ∧ _ = some 3) by decide +kernel) ⟨Nat.le_of_ble_eq_true rfl, Nat.le_of_ble_eq_true rfl⟩ rfl (Nat.le_of_ble_eq_true rfl) dL_law_400 ⟨by show _ ≤ 600000; omega, by show _ ≤ 7302250; omega⟩ (fun v M1 H locs hq w => ?_)
  obtain ⟨rfl, hRC1⟩ := hq
  obtain ⟨Mc1, eMc1⟩ : ∃ z, z = M1 := ⟨_, rfl⟩
  rw [← eMc1] at w hRC1
  clear eMc1 M1
  refine W.widen (k := 21 + 3 * (j + 1)) (n := 35979 + 133 * (j + 1)) (by omega) (by omega) ?_
  have w := w.swap
  refine W.eq (g2 := F0 m 403 ls [.int (sp_close S (xs (6 * j + 1)) (xs (6 * j + 2)) (xs (6 * j + 3))).1]) rfl ?_
  refine lv_aload_n hx hb dL_law_403 rfl (lv_at hl 3 rfl) ?_
  refine lv_aload_n hx hb dL_law_404 rfl (lv_at hl 1 rfl) ?_
  refine lv_iload_n hx hb dL_law_405 rfl (lv_at hl 0 rfl) ?_
  refine lv_iconst (v := 1) hx hb dL_law_406 (by decide) ?_
  refine lv_iadd hx hb dL_law_407 ?_
  refine m_sld CL w (6 * j + 1) (nI_add _ _) (by omega) dL_law_408 ?_
  refine lv_aload_n hx hb dL_law_409 rfl (lv_at hl 1 rfl) ?_
  refine lv_iload_n hx hb dL_law_410 rfl (lv_at hl 0 rfl) ?_
  refine lv_iconst (v := 2) hx hb dL_law_411 (by decide) ?_
  refine lv_iadd hx hb dL_law_412 ?_
  refine m_sld CL w (6 * j + 2) (nI_add _ _) (by omega) dL_law_413 ?_
  refine lv_aload_n hx hb dL_law_414 rfl (lv_at hl 1 rfl) ?_
  refine lv_iload_n hx hb dL_law_415 rfl (lv_at hl 0 rfl) ?_
  refine lv_iconst (v := 3) hx hb dL_law_416 (by decide) ?_
  refine lv_iadd hx hb dL_law_417 ?_
  refine m_sld CL w (6 * j + 3) (nI_add _ _) (by omega) dL_law_418 ?_
  refine m_callV C w hl.1 (As := [.int (xs (6 * j + 1)), .int (xs (6 * j + 2)), .int (xs (6 * j + 3))]) (rest := [.int (sp_close S (xs (6 * j + 1)) (xs (6 * j + 2)) (xs (6 * j + 3))).1]) (r_close l D y s.heap.size Mr Mc1 m0 B fr nc cl go bf cn S hW hQ j hI (xs (6 * j + 1)) (xs (6 * j + 2)) (xs (6 * j + 3))) gL_law_X4_close rfl hW.1 (T := TX4) (N := 16) rfl (show (_ = _ ∧ _ ≠ _ ∧ _ ≠ _ ∧ _ = some 3) by decide +kernel) ⟨Nat.le_of_ble_eq_true rfl, Nat.le_of_ble_eq_true rfl⟩ rfl (Nat.le_of_ble_eq_true rfl) dL_law_419 ⟨by show _ ≤ 600000; omega, by show _ ≤ 7302250; omega⟩ (fun v M2 H locs hq w => ?_)
  obtain ⟨rfl, hRM1⟩ := hq
  have w := w.swap
  refine W.eq (g2 := F0 m 422 ls [.int (sp_close S (xs (6 * j + 1)) (xs (6 * j + 2)) (xs (6 * j + 3))).1, .int (sp_close S (xs (6 * j + 1)) (xs (6 * j + 2)) (xs (6 * j + 3))).1]) rfl ?_
  refine lv_icmp_eq (tgt := 768) hx hb dL_law_422 (by decide) (fun _ => ?_) (fun h => absurd rfl h)
  exact next _ _ _ _ _ ls hRC1 hRM1 (inv_close hI hj5 (xs (6 * j + 1)) (xs (6 * j + 2)) (xs (6 * j + 3))) w hl
set_option maxRecDepth 100000 in
set_option maxHeartbeats 4000000 in
theorem law_turn {p : Program} {l : Launch} {e : Env} {s : State} {m : MethodId} {below : List Frame} {meth : Method} {c : Code} {D : va_G} {y : mY} {b L : Nat} {xs : Nat → Int32} (CL : lwC p s m meth c b L xs D y) (q1 m0 j : Nat) (hj : 6 * j + 6 ≤ L) (S : St) (Mc Mr : mp) (hRC : RC y q1 S Mc) (hRM : RM y m0 S Mr) (hI : Inv j S) (H : Heap) (locs : List Loc) (ls : Array Slot) (w : mS D s.heap.size Mc Mr s H locs) (hl : lv_has ls 4 [(3, .int (nI (6 * j))), (0, .ref b), (1, .ref q1), (2, .ref m0)]) (next : (∀ (S' : St) (Mc' Mr' : mp) (H : Heap) (locs : List Loc) (ls : Array Slot), RC y q1 S' Mc' → RM y m0 S' Mr' → Inv (j + 1) S' → mS D s.heap.size Mc' Mr' s H locs → lv_has ls 4 [(3, .int (nI (6 * j))), (0, .ref b), (1, .ref q1), (2, .ref m0)] → W p l e room_1 s m #[Value.ref b] below meth c H locs (21 + 3 * (j + 1)) (35979 + 133 * (j + 1)) (lw_Z below #[Value.ref b] s) (F0 m 768 ls []))) : W p l e room_1 s m #[Value.ref b] below meth c H locs (21 + 3 * j) (35979 + 133 * j) (lw_Z below #[Value.ref b] s) (F0 m 427 ls []) := by
  have hL := CL.2.2.2
  have C := CL.1
  have hx := C.1
  have hb := C.2.1
  have hj5 : j + 1 ≤ 512 := by omega
  obtain ⟨A, tr, f, g, hC, hR⟩ := hRC
  obtain ⟨B, fr, nc, cl, go, bf, cn, hW, hQ⟩ := hRM
  refine lv_aload_n hx hb dL_law_427 rfl (lv_at hl 2 rfl) ?_
  refine lv_aload_n hx hb dL_law_428 rfl (lv_at hl 1 rfl) ?_
  refine lv_iload_n hx hb dL_law_429 rfl (lv_at hl 0 rfl) ?_
  refine lv_iconst (v := 1) hx hb dL_law_430 (by decide) ?_
  refine lv_iadd hx hb dL_law_431 ?_
  refine m_sld CL w (6 * j + 1) (nI_add _ _) (by omega) dL_law_432 ?_
  refine lv_aload_n hx hb dL_law_433 rfl (lv_at hl 1 rfl) ?_
  refine lv_iload_n hx hb dL_law_434 rfl (lv_at hl 0 rfl) ?_
  refine lv_iconst (v := 2) hx hb dL_law_435 (by decide) ?_
  refine lv_iadd hx hb dL_law_436 ?_
  refine m_sld CL w (6 * j + 2) (nI_add _ _) (by omega) dL_law_437 ?_
  refine m_callV C w hl.1 (As := [.int (xs (6 * j + 1)), .int (xs (6 * j + 2))]) (rest := []) (c_turn l D y s.heap.size Mc Mr q1 A tr f g S hC j hI hR (xs (6 * j + 1)) (xs (6 * j + 2))) gL_law_X3_turn rfl hC.1.1 (T := TX3) (N := 7) rfl (show (_ = _ ∧ _ ≠ _ ∧ _ ≠ _ ∧ _ = some 2) by decide +kernel) ⟨Nat.le_of_ble_eq_true rfl, Nat.le_of_ble_eq_true rfl⟩ rfl (Nat.le_of_ble_eq_true rfl) dL_law_438 ⟨by show _ ≤ 600000; omega, by show _ ≤ 7302250; omega⟩ (fun v M1 H locs hq w => ?_)
  obtain ⟨rfl, hRC1⟩ := hq
  obtain ⟨Mc1, eMc1⟩ : ∃ z, z = M1 := ⟨_, rfl⟩
  rw [← eMc1] at w hRC1
  clear eMc1 M1
  refine W.widen (k := 21 + 3 * (j + 1)) (n := 35979 + 133 * (j + 1)) (by omega) (by omega) ?_
  have w := w.swap
  refine W.eq (g2 := F0 m 441 ls [.int (sp_turn S (xs (6 * j + 1)) (xs (6 * j + 2))).1]) rfl ?_
  refine lv_aload_n hx hb dL_law_441 rfl (lv_at hl 3 rfl) ?_
  refine lv_aload_n hx hb dL_law_442 rfl (lv_at hl 1 rfl) ?_
  refine lv_iload_n hx hb dL_law_443 rfl (lv_at hl 0 rfl) ?_
  refine lv_iconst (v := 1) hx hb dL_law_444 (by decide) ?_
  refine lv_iadd hx hb dL_law_445 ?_
  refine m_sld CL w (6 * j + 1) (nI_add _ _) (by omega) dL_law_446 ?_
  refine lv_aload_n hx hb dL_law_447 rfl (lv_at hl 1 rfl) ?_
  refine lv_iload_n hx hb dL_law_448 rfl (lv_at hl 0 rfl) ?_
  refine lv_iconst (v := 2) hx hb dL_law_449 (by decide) ?_
  refine lv_iadd hx hb dL_law_450 ?_
  refine m_sld CL w (6 * j + 2) (nI_add _ _) (by omega) dL_law_451 ?_
  refine m_callV C w hl.1 (As := [.int (xs (6 * j + 1)), .int (xs (6 * j + 2))]) (rest := [.int (sp_turn S (xs (6 * j + 1)) (xs (6 * j + 2))).1]) (r_turn l D y s.heap.size Mr Mc1 m0 B fr nc cl go bf cn S hW hQ j hI (xs (6 * j + 1)) (xs (6 * j + 2))) gL_law_X4_turn rfl hW.1 (T := TX4) (N := 16) rfl (show (_ = _ ∧ _ ≠ _ ∧ _ ≠ _ ∧ _ = some 2) by decide +kernel) ⟨Nat.le_of_ble_eq_true rfl, Nat.le_of_ble_eq_true rfl⟩ rfl (Nat.le_of_ble_eq_true rfl) dL_law_452 ⟨by show _ ≤ 600000; omega, by show _ ≤ 7302250; omega⟩ (fun v M2 H locs hq w => ?_)
  obtain ⟨rfl, hRM1⟩ := hq
  have w := w.swap
  refine W.eq (g2 := F0 m 455 ls [.int (sp_turn S (xs (6 * j + 1)) (xs (6 * j + 2))).1, .int (sp_turn S (xs (6 * j + 1)) (xs (6 * j + 2))).1]) rfl ?_
  refine lv_icmp_eq (tgt := 768) hx hb dL_law_455 (by decide) (fun _ => ?_) (fun h => absurd rfl h)
  exact next _ _ _ _ _ ls hRC1 hRM1 (inv_turn hI hj5 (xs (6 * j + 1)) (xs (6 * j + 2))) w hl
set_option maxRecDepth 100000 in
set_option maxHeartbeats 4000000 in
theorem law_spread {p : Program} {l : Launch} {e : Env} {s : State} {m : MethodId} {below : List Frame} {meth : Method} {c : Code} {D : va_G} {y : mY} {b L : Nat} {xs : Nat → Int32} (CL : lwC p s m meth c b L xs D y) (q1 m0 j : Nat) (hj : 6 * j + 6 ≤ L) (S : St) (Mc Mr : mp) (hRC : RC y q1 S Mc) (hRM : RM y m0 S Mr) (hI : Inv j S) (H : Heap) (locs : List Loc) (ls : Array Slot) (w : mS D s.heap.size Mc Mr s H locs) (hl : lv_has ls 4 [(3, .int (nI (6 * j))), (0, .ref b), (1, .ref q1), (2, .ref m0)]) (next : (∀ (S' : St) (Mc' Mr' : mp) (H : Heap) (locs : List Loc) (ls : Array Slot), RC y q1 S' Mc' → RM y m0 S' Mr' → Inv (j + 1) S' → mS D s.heap.size Mc' Mr' s H locs → lv_has ls 4 [(3, .int (nI (6 * j))), (0, .ref b), (1, .ref q1), (2, .ref m0)] → W p l e room_1 s m #[Value.ref b] below meth c H locs (21 + 3 * (j + 1)) (35979 + 133 * (j + 1)) (lw_Z below #[Value.ref b] s) (F0 m 768 ls []))) : W p l e room_1 s m #[Value.ref b] below meth c H locs (21 + 3 * j) (35979 + 133 * j) (lw_Z below #[Value.ref b] s) (F0 m 460 ls []) := by
  have hL := CL.2.2.2
  have C := CL.1
  have hx := C.1
  have hb := C.2.1
  have hj5 : j + 1 ≤ 512 := by omega
  obtain ⟨A, tr, f, g, hC, hR⟩ := hRC
  obtain ⟨B, fr, nc, cl, go, bf, cn, hW, hQ⟩ := hRM
  refine lv_aload_n hx hb dL_law_460 rfl (lv_at hl 2 rfl) ?_
  refine lv_aload_n hx hb dL_law_461 rfl (lv_at hl 1 rfl) ?_
  refine lv_iload_n hx hb dL_law_462 rfl (lv_at hl 0 rfl) ?_
  refine lv_iconst (v := 1) hx hb dL_law_463 (by decide) ?_
  refine lv_iadd hx hb dL_law_464 ?_
  refine m_sld CL w (6 * j + 1) (nI_add _ _) (by omega) dL_law_465 ?_
  refine lv_aload_n hx hb dL_law_466 rfl (lv_at hl 1 rfl) ?_
  refine lv_iload_n hx hb dL_law_467 rfl (lv_at hl 0 rfl) ?_
  refine lv_iconst (v := 2) hx hb dL_law_468 (by decide) ?_
  refine lv_iadd hx hb dL_law_469 ?_
  refine m_sld CL w (6 * j + 2) (nI_add _ _) (by omega) dL_law_470 ?_
  refine m_callV C w hl.1 (As := [.int (xs (6 * j + 1)), .int (xs (6 * j + 2))]) (rest := []) (c_spread l D y s.heap.size Mc Mr q1 A tr f g S hC j hI hR (xs (6 * j + 1)) (xs (6 * j + 2))) gL_law_X3_spread rfl hC.1.1 (T := TX3) (N := 7) rfl (show (_ = _ ∧ _ ≠ _ ∧ _ ≠ _ ∧ _ = some 2) by decide +kernel) ⟨Nat.le_of_ble_eq_true rfl, Nat.le_of_ble_eq_true rfl⟩ rfl (Nat.le_of_ble_eq_true rfl) dL_law_471 ⟨by show _ ≤ 600000; omega, by show _ ≤ 7302250; omega⟩ (fun v M1 H locs hq w => ?_)
  obtain ⟨rfl, hRC1⟩ := hq
  obtain ⟨Mc1, eMc1⟩ : ∃ z, z = M1 := ⟨_, rfl⟩
  rw [← eMc1] at w hRC1
  clear eMc1 M1
  refine W.widen (k := 21 + 3 * (j + 1)) (n := 35979 + 133 * (j + 1)) (by omega) (by omega) ?_
  have w := w.swap
  refine W.eq (g2 := F0 m 474 ls [.int (sp_spread S (xs (6 * j + 1)) (xs (6 * j + 2))).1]) rfl ?_
  refine lv_aload_n hx hb dL_law_474 rfl (lv_at hl 3 rfl) ?_
  refine lv_aload_n hx hb dL_law_475 rfl (lv_at hl 1 rfl) ?_
  refine lv_iload_n hx hb dL_law_476 rfl (lv_at hl 0 rfl) ?_
  refine lv_iconst (v := 1) hx hb dL_law_477 (by decide) ?_
  refine lv_iadd hx hb dL_law_478 ?_
  refine m_sld CL w (6 * j + 1) (nI_add _ _) (by omega) dL_law_479 ?_
  refine lv_aload_n hx hb dL_law_480 rfl (lv_at hl 1 rfl) ?_
  refine lv_iload_n hx hb dL_law_481 rfl (lv_at hl 0 rfl) ?_
  refine lv_iconst (v := 2) hx hb dL_law_482 (by decide) ?_
  refine lv_iadd hx hb dL_law_483 ?_
  refine m_sld CL w (6 * j + 2) (nI_add _ _) (by omega) dL_law_484 ?_
  refine m_callV C w hl.1 (As := [.int (xs (6 * j + 1)), .int (xs (6 * j + 2))]) (rest := [.int (sp_spread S (xs (6 * j + 1)) (xs (6 * j + 2))).1]) (r_spread l D y s.heap.size Mr Mc1 m0 B fr nc cl go bf cn S hW hQ j hI (xs (6 * j + 1)) (xs (6 * j + 2))) gL_law_X4_spread rfl hW.1 (T := TX4) (N := 16) rfl (show (_ = _ ∧ _ ≠ _ ∧ _ ≠ _ ∧ _ = some 2) by decide +kernel) ⟨Nat.le_of_ble_eq_true rfl, Nat.le_of_ble_eq_true rfl⟩ rfl (Nat.le_of_ble_eq_true rfl) dL_law_485 ⟨by show _ ≤ 600000; omega, by show _ ≤ 7302250; omega⟩ (fun v M2 H locs hq w => ?_)
  obtain ⟨rfl, hRM1⟩ := hq
  have w := w.swap
  refine W.eq (g2 := F0 m 488 ls [.int (sp_spread S (xs (6 * j + 1)) (xs (6 * j + 2))).1, .int (sp_spread S (xs (6 * j + 1)) (xs (6 * j + 2))).1]) rfl ?_
  refine lv_icmp_eq (tgt := 768) hx hb dL_law_488 (by decide) (fun _ => ?_) (fun h => absurd rfl h)
  exact next _ _ _ _ _ ls hRC1 hRM1 (inv_spread hI hj5 (xs (6 * j + 1)) (xs (6 * j + 2))) w hl
set_option maxRecDepth 100000 in
set_option maxHeartbeats 4000000 in
theorem law_undo {p : Program} {l : Launch} {e : Env} {s : State} {m : MethodId} {below : List Frame} {meth : Method} {c : Code} {D : va_G} {y : mY} {b L : Nat} {xs : Nat → Int32} (CL : lwC p s m meth c b L xs D y) (q1 m0 j : Nat) (hj : 6 * j + 6 ≤ L) (S : St) (Mc Mr : mp) (hRC : RC y q1 S Mc) (hRM : RM y m0 S Mr) (hI : Inv j S) (H : Heap) (locs : List Loc) (ls : Array Slot) (w : mS D s.heap.size Mc Mr s H locs) (hl : lv_has ls 4 [(3, .int (nI (6 * j))), (0, .ref b), (1, .ref q1), (2, .ref m0)]) (next : (∀ (S' : St) (Mc' Mr' : mp) (H : Heap) (locs : List Loc) (ls : Array Slot), RC y q1 S' Mc' → RM y m0 S' Mr' → Inv (j + 1) S' → mS D s.heap.size Mc' Mr' s H locs → lv_has ls 4 [(3, .int (nI (6 * j))), (0, .ref b), (1, .ref q1), (2, .ref m0)] → W p l e room_1 s m #[Value.ref b] below meth c H locs (21 + 3 * (j + 1)) (35979 + 133 * (j + 1)) (lw_Z below #[Value.ref b] s) (F0 m 768 ls []))) : W p l e room_1 s m #[Value.ref b] below meth c H locs (21 + 3 * j) (35979 + 133 * j) (lw_Z below #[Value.ref b] s) (F0 m 493 ls []) := by
  have hL := CL.2.2.2
  have C := CL.1
  have hx := C.1
  have hb := C.2.1
  have hj5 : j + 1 ≤ 512 := by omega
  obtain ⟨A, tr, f, g, hC, hR⟩ := hRC
  obtain ⟨B, fr, nc, cl, go, bf, cn, hW, hQ⟩ := hRM
  refine lv_aload_n hx hb dL_law_493 rfl (lv_at hl 2 rfl) ?_
  refine m_callV C w hl.1 (As := []) (rest := []) (c_undo l D y s.heap.size Mc Mr q1 A tr f g S hC j hI hR ) gL_law_X3_undo rfl hC.1.1 (T := TX3) (N := 7) rfl (show (_ = _ ∧ _ ≠ _ ∧ _ ≠ _ ∧ _ = some 0) by decide +kernel) ⟨Nat.le_of_ble_eq_true rfl, Nat.le_of_ble_eq_true rfl⟩ rfl (Nat.le_of_ble_eq_true rfl) dL_law_494 ⟨by show _ ≤ 600000; omega, by show _ ≤ 7302250; omega⟩ (fun v M1 H locs hq w => ?_)
  obtain ⟨rfl, hRC1⟩ := hq
  obtain ⟨Mc1, eMc1⟩ : ∃ z, z = M1 := ⟨_, rfl⟩
  rw [← eMc1] at w hRC1
  clear eMc1 M1
  refine W.widen (k := 21 + 3 * (j + 1)) (n := 35979 + 133 * (j + 1)) (by omega) (by omega) ?_
  have w := w.swap
  refine W.eq (g2 := F0 m 497 ls [.int (sp_undo S ).1]) rfl ?_
  refine lv_aload_n hx hb dL_law_497 rfl (lv_at hl 3 rfl) ?_
  refine m_callV C w hl.1 (As := []) (rest := [.int (sp_undo S ).1]) (r_undo l D y s.heap.size Mr Mc1 m0 B fr nc cl go bf cn S hW hQ j hI ) gL_law_X4_undo rfl hW.1 (T := TX4) (N := 16) rfl (show (_ = _ ∧ _ ≠ _ ∧ _ ≠ _ ∧ _ = some 0) by decide +kernel) ⟨Nat.le_of_ble_eq_true rfl, Nat.le_of_ble_eq_true rfl⟩ rfl (Nat.le_of_ble_eq_true rfl) dL_law_498 ⟨by show _ ≤ 600000; omega, by show _ ≤ 7302250; omega⟩ (fun v M2 H locs hq w => ?_)
  obtain ⟨rfl, hRM1⟩ := hq
  have w := w.swap
  refine W.eq (g2 := F0 m 501 ls [.int (sp_undo S ).1, .int (sp_undo S ).1]) rfl ?_
  refine lv_icmp_eq (tgt := 768) hx hb dL_law_501 (by decide) (fun _ => ?_) (fun h => absurd rfl h)
  exact next _ _ _ _ _ ls hRC1 hRM1 (inv_undo hI hj5 ) w hl
set_option maxRecDepth 100000 in
set_option maxHeartbeats 4000000 in
theorem law_match {p : Program} {l : Launch} {e : Env} {s : State} {m : MethodId} {below : List Frame} {meth : Method} {c : Code} {D : va_G} {y : mY} {b L : Nat} {xs : Nat → Int32} (CL : lwC p s m meth c b L xs D y) (q1 m0 j : Nat) (hj : 6 * j + 6 ≤ L) (S : St) (Mc Mr : mp) (hRC : RC y q1 S Mc) (hRM : RM y m0 S Mr) (hI : Inv j S) (H : Heap) (locs : List Loc) (ls : Array Slot) (w : mS D s.heap.size Mc Mr s H locs) (hl : lv_has ls 4 [(3, .int (nI (6 * j))), (0, .ref b), (1, .ref q1), (2, .ref m0)]) (next : (∀ (S' : St) (Mc' Mr' : mp) (H : Heap) (locs : List Loc) (ls : Array Slot), RC y q1 S' Mc' → RM y m0 S' Mr' → Inv (j + 1) S' → mS D s.heap.size Mc' Mr' s H locs → lv_has ls 4 [(3, .int (nI (6 * j))), (0, .ref b), (1, .ref q1), (2, .ref m0)] → W p l e room_1 s m #[Value.ref b] below meth c H locs (21 + 3 * (j + 1)) (35979 + 133 * (j + 1)) (lw_Z below #[Value.ref b] s) (F0 m 768 ls []))) : W p l e room_1 s m #[Value.ref b] below meth c H locs (21 + 3 * j) (35979 + 133 * j) (lw_Z below #[Value.ref b] s) (F0 m 506 ls []) := by
  have hL := CL.2.2.2
  have C := CL.1
  have hx := C.1
  have hb := C.2.1
  have hj5 : j + 1 ≤ 512 := by omega
  obtain ⟨A, tr, f, g, hC, hR⟩ := hRC
  obtain ⟨B, fr, nc, cl, go, bf, cn, hW, hQ⟩ := hRM
  refine lv_aload_n hx hb dL_law_506 rfl (lv_at hl 2 rfl) ?_
  refine lv_aload_n hx hb dL_law_507 rfl (lv_at hl 1 rfl) ?_
  refine lv_iload_n hx hb dL_law_508 rfl (lv_at hl 0 rfl) ?_
  refine lv_iconst (v := 1) hx hb dL_law_509 (by decide) ?_
  refine lv_iadd hx hb dL_law_510 ?_
  refine m_sld CL w (6 * j + 1) (nI_add _ _) (by omega) dL_law_511 ?_
  refine lv_aload_n hx hb dL_law_512 rfl (lv_at hl 1 rfl) ?_
  refine lv_iload_n hx hb dL_law_513 rfl (lv_at hl 0 rfl) ?_
  refine lv_iconst (v := 2) hx hb dL_law_514 (by decide) ?_
  refine lv_iadd hx hb dL_law_515 ?_
  refine m_sld CL w (6 * j + 2) (nI_add _ _) (by omega) dL_law_516 ?_
  refine lv_aload_n hx hb dL_law_517 rfl (lv_at hl 1 rfl) ?_
  refine lv_iload_n hx hb dL_law_518 rfl (lv_at hl 0 rfl) ?_
  refine lv_iconst (v := 3) hx hb dL_law_519 (by decide) ?_
  refine lv_iadd hx hb dL_law_520 ?_
  refine m_sld CL w (6 * j + 3) (nI_add _ _) (by omega) dL_law_521 ?_
  refine lv_aload_n hx hb dL_law_522 rfl (lv_at hl 1 rfl) ?_
  refine lv_iload_n hx hb dL_law_523 rfl (lv_at hl 0 rfl) ?_
  refine lv_iconst (v := 4) hx hb dL_law_524 (by decide) ?_
  refine lv_iadd hx hb dL_law_525 ?_
  refine m_sld CL w (6 * j + 4) (nI_add _ _) (by omega) dL_law_526 ?_
  refine lv_aload_n hx hb dL_law_527 rfl (lv_at hl 1 rfl) ?_
  refine lv_iload_n hx hb dL_law_528 rfl (lv_at hl 0 rfl) ?_
  refine lv_iconst (v := 5) hx hb dL_law_529 (by decide) ?_
  refine lv_iadd hx hb dL_law_530 ?_
  refine m_sld CL w (6 * j + 5) (nI_add _ _) (by omega) dL_law_531 ?_
  refine m_callV C w hl.1 (As := [.int (xs (6 * j + 1)), .int (xs (6 * j + 2)), .int (xs (6 * j + 3)), .int (xs (6 * j + 4)), .int (xs (6 * j + 5))]) (rest := []) (c_match l D y s.heap.size Mc Mr q1 A tr f g S hC j hI hR (xs (6 * j + 1)) (xs (6 * j + 2)) (xs (6 * j + 3)) (xs (6 * j + 4)) (xs (6 * j + 5))) gL_law_X3_match rfl hC.1.1 (T := TX3) (N := 7) rfl (show (_ = _ ∧ _ ≠ _ ∧ _ ≠ _ ∧ _ = some 5) by decide +kernel) ⟨Nat.le_of_ble_eq_true rfl, Nat.le_of_ble_eq_true rfl⟩ rfl (Nat.le_of_ble_eq_true rfl) dL_law_532 ⟨by show _ ≤ 600000; omega, by show _ ≤ 7302250; omega⟩ (fun v M1 H locs hq w => ?_)
  obtain ⟨rfl, hM1⟩ := hq
  rw [hM1] at w
  clear hM1 M1
  have hRC1 : RC y q1 S Mc := ⟨A, tr, f, g, hC, hR⟩
  refine W.widen (k := 21 + 3 * (j + 1)) (n := 35979 + 133 * (j + 1)) (by omega) (by omega) ?_
  have w := w.swap
  refine W.eq (g2 := F0 m 535 ls [.int (sp_match S (xs (6 * j + 1)) (xs (6 * j + 2)) (xs (6 * j + 3)) (xs (6 * j + 4)) (xs (6 * j + 5)))]) rfl ?_
  refine lv_aload_n hx hb dL_law_535 rfl (lv_at hl 3 rfl) ?_
  refine lv_aload_n hx hb dL_law_536 rfl (lv_at hl 1 rfl) ?_
  refine lv_iload_n hx hb dL_law_537 rfl (lv_at hl 0 rfl) ?_
  refine lv_iconst (v := 1) hx hb dL_law_538 (by decide) ?_
  refine lv_iadd hx hb dL_law_539 ?_
  refine m_sld CL w (6 * j + 1) (nI_add _ _) (by omega) dL_law_540 ?_
  refine lv_aload_n hx hb dL_law_541 rfl (lv_at hl 1 rfl) ?_
  refine lv_iload_n hx hb dL_law_542 rfl (lv_at hl 0 rfl) ?_
  refine lv_iconst (v := 2) hx hb dL_law_543 (by decide) ?_
  refine lv_iadd hx hb dL_law_544 ?_
  refine m_sld CL w (6 * j + 2) (nI_add _ _) (by omega) dL_law_545 ?_
  refine lv_aload_n hx hb dL_law_546 rfl (lv_at hl 1 rfl) ?_
  refine lv_iload_n hx hb dL_law_547 rfl (lv_at hl 0 rfl) ?_
  refine lv_iconst (v := 3) hx hb dL_law_548 (by decide) ?_
  refine lv_iadd hx hb dL_law_549 ?_
  refine m_sld CL w (6 * j + 3) (nI_add _ _) (by omega) dL_law_550 ?_
  refine lv_aload_n hx hb dL_law_551 rfl (lv_at hl 1 rfl) ?_
  refine lv_iload_n hx hb dL_law_552 rfl (lv_at hl 0 rfl) ?_
  refine lv_iconst (v := 4) hx hb dL_law_553 (by decide) ?_
  refine lv_iadd hx hb dL_law_554 ?_
  refine m_sld CL w (6 * j + 4) (nI_add _ _) (by omega) dL_law_555 ?_
  refine lv_aload_n hx hb dL_law_556 rfl (lv_at hl 1 rfl) ?_
  refine lv_iload_n hx hb dL_law_557 rfl (lv_at hl 0 rfl) ?_
  refine lv_iconst (v := 5) hx hb dL_law_558 (by decide) ?_
  refine lv_iadd hx hb dL_law_559 ?_
  refine m_sld CL w (6 * j + 5) (nI_add _ _) (by omega) dL_law_560 ?_
  refine m_callV C w hl.1 (As := [.int (xs (6 * j + 1)), .int (xs (6 * j + 2)), .int (xs (6 * j + 3)), .int (xs (6 * j + 4)), .int (xs (6 * j + 5))]) (rest := [.int (sp_match S (xs (6 * j + 1)) (xs (6 * j + 2)) (xs (6 * j + 3)) (xs (6 * j + 4)) (xs (6 * j + 5)))]) (r_match l D y s.heap.size Mr Mc m0 B fr nc cl go bf cn S hW hQ j hI (xs (6 * j + 1)) (xs (6 * j + 2)) (xs (6 * j + 3)) (xs (6 * j + 4)) (xs (6 * j + 5))) gL_law_X4_match rfl hW.1 (T := TX4) (N := 16) rfl (show (_ = _ ∧ _ ≠ _ ∧ _ ≠ _ ∧ _ = some 5) by decide +kernel) ⟨Nat.le_of_ble_eq_true rfl, Nat.le_of_ble_eq_true rfl⟩ rfl (Nat.le_of_ble_eq_true rfl) dL_law_561 ⟨by show _ ≤ 600000; omega, by show _ ≤ 7302250; omega⟩ (fun v M2 H locs hq w => ?_)
  obtain ⟨rfl, hM1⟩ := hq
  rw [hM1] at w
  clear hM1 M2
  have hRM1 : RM y m0 S Mr := ⟨B, fr, nc, cl, go, bf, cn, hW, hQ⟩
  have w := w.swap
  refine W.eq (g2 := F0 m 564 ls [.int (sp_match S (xs (6 * j + 1)) (xs (6 * j + 2)) (xs (6 * j + 3)) (xs (6 * j + 4)) (xs (6 * j + 5))), .int (sp_match S (xs (6 * j + 1)) (xs (6 * j + 2)) (xs (6 * j + 3)) (xs (6 * j + 4)) (xs (6 * j + 5)))]) rfl ?_
  refine lv_icmp_eq (tgt := 768) hx hb dL_law_564 (by decide) (fun _ => ?_) (fun h => absurd rfl h)
  exact next _ _ _ _ _ ls hRC1 hRM1 (hI.up (Nat.le_succ j) hj5) w hl
set_option maxRecDepth 100000 in
set_option maxHeartbeats 4000000 in
theorem law_polish {p : Program} {l : Launch} {e : Env} {s : State} {m : MethodId} {below : List Frame} {meth : Method} {c : Code} {D : va_G} {y : mY} {b L : Nat} {xs : Nat → Int32} (CL : lwC p s m meth c b L xs D y) (q1 m0 j : Nat) (hj : 6 * j + 6 ≤ L) (S : St) (Mc Mr : mp) (hRC : RC y q1 S Mc) (hRM : RM y m0 S Mr) (hI : Inv j S) (H : Heap) (locs : List Loc) (ls : Array Slot) (w : mS D s.heap.size Mc Mr s H locs) (hl : lv_has ls 4 [(3, .int (nI (6 * j))), (0, .ref b), (1, .ref q1), (2, .ref m0)]) (next : (∀ (S' : St) (Mc' Mr' : mp) (H : Heap) (locs : List Loc) (ls : Array Slot), RC y q1 S' Mc' → RM y m0 S' Mr' → Inv (j + 1) S' → mS D s.heap.size Mc' Mr' s H locs → lv_has ls 4 [(3, .int (nI (6 * j))), (0, .ref b), (1, .ref q1), (2, .ref m0)] → W p l e room_1 s m #[Value.ref b] below meth c H locs (21 + 3 * (j + 1)) (35979 + 133 * (j + 1)) (lw_Z below #[Value.ref b] s) (F0 m 768 ls []))) : W p l e room_1 s m #[Value.ref b] below meth c H locs (21 + 3 * j) (35979 + 133 * j) (lw_Z below #[Value.ref b] s) (F0 m 569 ls []) := by
  have hL := CL.2.2.2
  have C := CL.1
  have hx := C.1
  have hb := C.2.1
  have hj5 : j + 1 ≤ 512 := by omega
  obtain ⟨A, tr, f, g, hC, hR⟩ := hRC
  obtain ⟨B, fr, nc, cl, go, bf, cn, hW, hQ⟩ := hRM
  refine lv_aload_n hx hb dL_law_569 rfl (lv_at hl 2 rfl) ?_
  refine lv_aload_n hx hb dL_law_570 rfl (lv_at hl 1 rfl) ?_
  refine lv_iload_n hx hb dL_law_571 rfl (lv_at hl 0 rfl) ?_
  refine lv_iconst (v := 1) hx hb dL_law_572 (by decide) ?_
  refine lv_iadd hx hb dL_law_573 ?_
  refine m_sld CL w (6 * j + 1) (nI_add _ _) (by omega) dL_law_574 ?_
  refine lv_aload_n hx hb dL_law_575 rfl (lv_at hl 1 rfl) ?_
  refine lv_iload_n hx hb dL_law_576 rfl (lv_at hl 0 rfl) ?_
  refine lv_iconst (v := 2) hx hb dL_law_577 (by decide) ?_
  refine lv_iadd hx hb dL_law_578 ?_
  refine m_sld CL w (6 * j + 2) (nI_add _ _) (by omega) dL_law_579 ?_
  refine lv_aload_n hx hb dL_law_580 rfl (lv_at hl 1 rfl) ?_
  refine lv_iload_n hx hb dL_law_581 rfl (lv_at hl 0 rfl) ?_
  refine lv_iconst (v := 3) hx hb dL_law_582 (by decide) ?_
  refine lv_iadd hx hb dL_law_583 ?_
  refine m_sld CL w (6 * j + 3) (nI_add _ _) (by omega) dL_law_584 ?_
  refine m_callV C w hl.1 (As := [.int (xs (6 * j + 1)), .int (xs (6 * j + 2)), .int (xs (6 * j + 3))]) (rest := []) (c_polish l D y s.heap.size Mc Mr q1 A tr f g S hC j hI hR (xs (6 * j + 1)) (xs (6 * j + 2)) (xs (6 * j + 3))) gL_law_X3_polish rfl hC.1.1 (T := TX3) (N := 7) rfl (show (_ = _ ∧ _ ≠ _ ∧ _ ≠ _ ∧ _ = some 3) by decide +kernel) ⟨Nat.le_of_ble_eq_true rfl, Nat.le_of_ble_eq_true rfl⟩ rfl (Nat.le_of_ble_eq_true rfl) dL_law_585 ⟨by show _ ≤ 600000; omega, by show _ ≤ 7302250; omega⟩ (fun v M1 H locs hq w => ?_)
  obtain ⟨rfl, hRC1⟩ := hq
  obtain ⟨Mc1, eMc1⟩ : ∃ z, z = M1 := ⟨_, rfl⟩
  rw [← eMc1] at w hRC1
  clear eMc1 M1
  refine W.widen (k := 21 + 3 * (j + 1)) (n := 35979 + 133 * (j + 1)) (by omega) (by omega) ?_
  have w := w.swap
  refine W.eq (g2 := F0 m 588 ls [.int (sp_polish S (xs (6 * j + 1)) (xs (6 * j + 2)) (xs (6 * j + 3))).1]) rfl ?_
  refine lv_aload_n hx hb dL_law_588 rfl (lv_at hl 3 rfl) ?_
  refine lv_aload_n hx hb dL_law_589 rfl (lv_at hl 1 rfl) ?_
  refine lv_iload_n hx hb dL_law_590 rfl (lv_at hl 0 rfl) ?_
  refine lv_iconst (v := 1) hx hb dL_law_591 (by decide) ?_
  refine lv_iadd hx hb dL_law_592 ?_
  refine m_sld CL w (6 * j + 1) (nI_add _ _) (by omega) dL_law_593 ?_
  refine lv_aload_n hx hb dL_law_594 rfl (lv_at hl 1 rfl) ?_
  refine lv_iload_n hx hb dL_law_595 rfl (lv_at hl 0 rfl) ?_
  refine lv_iconst (v := 2) hx hb dL_law_596 (by decide) ?_
  refine lv_iadd hx hb dL_law_597 ?_
  refine m_sld CL w (6 * j + 2) (nI_add _ _) (by omega) dL_law_598 ?_
  refine lv_aload_n hx hb dL_law_599 rfl (lv_at hl 1 rfl) ?_
  refine lv_iload_n hx hb dL_law_600 rfl (lv_at hl 0 rfl) ?_
  refine lv_iconst (v := 3) hx hb dL_law_601 (by decide) ?_
  refine lv_iadd hx hb dL_law_602 ?_
  refine m_sld CL w (6 * j + 3) (nI_add _ _) (by omega) dL_law_603 ?_
  refine m_callV C w hl.1 (As := [.int (xs (6 * j + 1)), .int (xs (6 * j + 2)), .int (xs (6 * j + 3))]) (rest := [.int (sp_polish S (xs (6 * j + 1)) (xs (6 * j + 2)) (xs (6 * j + 3))).1]) (r_polish l D y s.heap.size Mr Mc1 m0 B fr nc cl go bf cn S hW hQ j hI (xs (6 * j + 1)) (xs (6 * j + 2)) (xs (6 * j + 3))) gL_law_X4_polish rfl hW.1 (T := TX4) (N := 16) rfl (show (_ = _ ∧ _ ≠ _ ∧ _ ≠ _ ∧ _ = some 3) by decide +kernel) ⟨Nat.le_of_ble_eq_true rfl, Nat.le_of_ble_eq_true rfl⟩ rfl (Nat.le_of_ble_eq_true rfl) dL_law_604 ⟨by show _ ≤ 600000; omega, by show _ ≤ 7302250; omega⟩ (fun v M2 H locs hq w => ?_)
  obtain ⟨rfl, hRM1⟩ := hq
  have w := w.swap
  refine W.eq (g2 := F0 m 607 ls [.int (sp_polish S (xs (6 * j + 1)) (xs (6 * j + 2)) (xs (6 * j + 3))).1, .int (sp_polish S (xs (6 * j + 1)) (xs (6 * j + 2)) (xs (6 * j + 3))).1]) rfl ?_
  refine lv_icmp_eq (tgt := 768) hx hb dL_law_607 (by decide) (fun _ => ?_) (fun h => absurd rfl h)
  exact next _ _ _ _ _ ls hRC1 hRM1 (inv_polish hI hj5 (xs (6 * j + 1)) (xs (6 * j + 2)) (xs (6 * j + 3))) w hl
set_option maxRecDepth 100000 in
set_option maxHeartbeats 4000000 in
theorem law_tray {p : Program} {l : Launch} {e : Env} {s : State} {m : MethodId} {below : List Frame} {meth : Method} {c : Code} {D : va_G} {y : mY} {b L : Nat} {xs : Nat → Int32} (CL : lwC p s m meth c b L xs D y) (q1 m0 j : Nat) (hj : 6 * j + 6 ≤ L) (S : St) (Mc Mr : mp) (hRC : RC y q1 S Mc) (hRM : RM y m0 S Mr) (hI : Inv j S) (H : Heap) (locs : List Loc) (ls : Array Slot) (w : mS D s.heap.size Mc Mr s H locs) (hl : lv_has ls 4 [(3, .int (nI (6 * j))), (0, .ref b), (1, .ref q1), (2, .ref m0)]) (next : (∀ (S' : St) (Mc' Mr' : mp) (H : Heap) (locs : List Loc) (ls : Array Slot), RC y q1 S' Mc' → RM y m0 S' Mr' → Inv (j + 1) S' → mS D s.heap.size Mc' Mr' s H locs → lv_has ls 4 [(3, .int (nI (6 * j))), (0, .ref b), (1, .ref q1), (2, .ref m0)] → W p l e room_1 s m #[Value.ref b] below meth c H locs (21 + 3 * (j + 1)) (35979 + 133 * (j + 1)) (lw_Z below #[Value.ref b] s) (F0 m 768 ls []))) : W p l e room_1 s m #[Value.ref b] below meth c H locs (21 + 3 * j) (35979 + 133 * j) (lw_Z below #[Value.ref b] s) (F0 m 612 ls []) := by
  have hL := CL.2.2.2
  have C := CL.1
  have hx := C.1
  have hb := C.2.1
  have hj5 : j + 1 ≤ 512 := by omega
  obtain ⟨A, tr, f, g, hC, hR⟩ := hRC
  obtain ⟨B, fr, nc, cl, go, bf, cn, hW, hQ⟩ := hRM
  refine lv_aload_n hx hb dL_law_612 rfl (lv_at hl 2 rfl) ?_
  refine lv_aload_n hx hb dL_law_613 rfl (lv_at hl 1 rfl) ?_
  refine lv_iload_n hx hb dL_law_614 rfl (lv_at hl 0 rfl) ?_
  refine lv_iconst (v := 1) hx hb dL_law_615 (by decide) ?_
  refine lv_iadd hx hb dL_law_616 ?_
  refine m_sld CL w (6 * j + 1) (nI_add _ _) (by omega) dL_law_617 ?_
  refine lv_aload_n hx hb dL_law_618 rfl (lv_at hl 1 rfl) ?_
  refine lv_iload_n hx hb dL_law_619 rfl (lv_at hl 0 rfl) ?_
  refine lv_iconst (v := 2) hx hb dL_law_620 (by decide) ?_
  refine lv_iadd hx hb dL_law_621 ?_
  refine m_sld CL w (6 * j + 2) (nI_add _ _) (by omega) dL_law_622 ?_
  refine m_callV C w hl.1 (As := [.int (xs (6 * j + 1)), .int (xs (6 * j + 2))]) (rest := []) (c_tray l D y s.heap.size Mc Mr q1 A tr f g S hC j hI hR (xs (6 * j + 1)) (xs (6 * j + 2))) gL_law_X3_tray rfl hC.1.1 (T := TX3) (N := 7) rfl (show (_ = _ ∧ _ ≠ _ ∧ _ ≠ _ ∧ _ = some 2) by decide +kernel) ⟨Nat.le_of_ble_eq_true rfl, Nat.le_of_ble_eq_true rfl⟩ rfl (Nat.le_of_ble_eq_true rfl) dL_law_623 ⟨by show _ ≤ 600000; omega, by show _ ≤ 7302250; omega⟩ (fun v M1 H locs hq w => ?_)
  obtain ⟨rfl, hM1⟩ := hq
  rw [hM1] at w
  clear hM1 M1
  have hRC1 : RC y q1 S Mc := ⟨A, tr, f, g, hC, hR⟩
  refine W.widen (k := 21 + 3 * (j + 1)) (n := 35979 + 133 * (j + 1)) (by omega) (by omega) ?_
  have w := w.swap
  refine W.eq (g2 := F0 m 626 ls [.int (sp_tray S (xs (6 * j + 1)) (xs (6 * j + 2)))]) rfl ?_
  refine lv_aload_n hx hb dL_law_626 rfl (lv_at hl 3 rfl) ?_
  refine lv_aload_n hx hb dL_law_627 rfl (lv_at hl 1 rfl) ?_
  refine lv_iload_n hx hb dL_law_628 rfl (lv_at hl 0 rfl) ?_
  refine lv_iconst (v := 1) hx hb dL_law_629 (by decide) ?_
  refine lv_iadd hx hb dL_law_630 ?_
  refine m_sld CL w (6 * j + 1) (nI_add _ _) (by omega) dL_law_631 ?_
  refine lv_aload_n hx hb dL_law_632 rfl (lv_at hl 1 rfl) ?_
  refine lv_iload_n hx hb dL_law_633 rfl (lv_at hl 0 rfl) ?_
  refine lv_iconst (v := 2) hx hb dL_law_634 (by decide) ?_
  refine lv_iadd hx hb dL_law_635 ?_
  refine m_sld CL w (6 * j + 2) (nI_add _ _) (by omega) dL_law_636 ?_
  refine m_callV C w hl.1 (As := [.int (xs (6 * j + 1)), .int (xs (6 * j + 2))]) (rest := [.int (sp_tray S (xs (6 * j + 1)) (xs (6 * j + 2)))]) (r_tray l D y s.heap.size Mr Mc m0 B fr nc cl go bf cn S hW hQ j hI (xs (6 * j + 1)) (xs (6 * j + 2))) gL_law_X4_tray rfl hW.1 (T := TX4) (N := 16) rfl (show (_ = _ ∧ _ ≠ _ ∧ _ ≠ _ ∧ _ = some 2) by decide +kernel) ⟨Nat.le_of_ble_eq_true rfl, Nat.le_of_ble_eq_true rfl⟩ rfl (Nat.le_of_ble_eq_true rfl) dL_law_637 ⟨by show _ ≤ 600000; omega, by show _ ≤ 7302250; omega⟩ (fun v M2 H locs hq w => ?_)
  obtain ⟨rfl, hM1⟩ := hq
  rw [hM1] at w
  clear hM1 M2
  have hRM1 : RM y m0 S Mr := ⟨B, fr, nc, cl, go, bf, cn, hW, hQ⟩
  have w := w.swap
  refine W.eq (g2 := F0 m 640 ls [.int (sp_tray S (xs (6 * j + 1)) (xs (6 * j + 2))), .int (sp_tray S (xs (6 * j + 1)) (xs (6 * j + 2)))]) rfl ?_
  refine lv_icmp_eq (tgt := 768) hx hb dL_law_640 (by decide) (fun _ => ?_) (fun h => absurd rfl h)
  exact next _ _ _ _ _ ls hRC1 hRM1 (hI.up (Nat.le_succ j) hj5) w hl
set_option maxRecDepth 100000 in
set_option maxHeartbeats 4000000 in
theorem law_what {p : Program} {l : Launch} {e : Env} {s : State} {m : MethodId} {below : List Frame} {meth : Method} {c : Code} {D : va_G} {y : mY} {b L : Nat} {xs : Nat → Int32} (CL : lwC p s m meth c b L xs D y) (q1 m0 j : Nat) (hj : 6 * j + 6 ≤ L) (S : St) (Mc Mr : mp) (hRC : RC y q1 S Mc) (hRM : RM y m0 S Mr) (hI : Inv j S) (H : Heap) (locs : List Loc) (ls : Array Slot) (w : mS D s.heap.size Mc Mr s H locs) (hl : lv_has ls 4 [(3, .int (nI (6 * j))), (0, .ref b), (1, .ref q1), (2, .ref m0)]) (next : (∀ (S' : St) (Mc' Mr' : mp) (H : Heap) (locs : List Loc) (ls : Array Slot), RC y q1 S' Mc' → RM y m0 S' Mr' → Inv (j + 1) S' → mS D s.heap.size Mc' Mr' s H locs → lv_has ls 4 [(3, .int (nI (6 * j))), (0, .ref b), (1, .ref q1), (2, .ref m0)] → W p l e room_1 s m #[Value.ref b] below meth c H locs (21 + 3 * (j + 1)) (35979 + 133 * (j + 1)) (lw_Z below #[Value.ref b] s) (F0 m 768 ls []))) : W p l e room_1 s m #[Value.ref b] below meth c H locs (21 + 3 * j) (35979 + 133 * j) (lw_Z below #[Value.ref b] s) (F0 m 645 ls []) := by
  have hL := CL.2.2.2
  have C := CL.1
  have hx := C.1
  have hb := C.2.1
  have hj5 : j + 1 ≤ 512 := by omega
  obtain ⟨A, tr, f, g, hC, hR⟩ := hRC
  obtain ⟨B, fr, nc, cl, go, bf, cn, hW, hQ⟩ := hRM
  refine lv_aload_n hx hb dL_law_645 rfl (lv_at hl 2 rfl) ?_
  refine lv_aload_n hx hb dL_law_646 rfl (lv_at hl 1 rfl) ?_
  refine lv_iload_n hx hb dL_law_647 rfl (lv_at hl 0 rfl) ?_
  refine lv_iconst (v := 1) hx hb dL_law_648 (by decide) ?_
  refine lv_iadd hx hb dL_law_649 ?_
  refine m_sld CL w (6 * j + 1) (nI_add _ _) (by omega) dL_law_650 ?_
  refine lv_aload_n hx hb dL_law_651 rfl (lv_at hl 1 rfl) ?_
  refine lv_iload_n hx hb dL_law_652 rfl (lv_at hl 0 rfl) ?_
  refine lv_iconst (v := 2) hx hb dL_law_653 (by decide) ?_
  refine lv_iadd hx hb dL_law_654 ?_
  refine m_sld CL w (6 * j + 2) (nI_add _ _) (by omega) dL_law_655 ?_
  refine m_callV C w hl.1 (As := [.int (xs (6 * j + 1)), .int (xs (6 * j + 2))]) (rest := []) (c_what l D y s.heap.size Mc Mr q1 A tr f g S hC j hI hR (xs (6 * j + 1)) (xs (6 * j + 2))) gL_law_X3_what rfl hC.1.1 (T := TX3) (N := 7) rfl (show (_ = _ ∧ _ ≠ _ ∧ _ ≠ _ ∧ _ = some 2) by decide +kernel) ⟨Nat.le_of_ble_eq_true rfl, Nat.le_of_ble_eq_true rfl⟩ rfl (Nat.le_of_ble_eq_true rfl) dL_law_656 ⟨by show _ ≤ 600000; omega, by show _ ≤ 7302250; omega⟩ (fun v M1 H locs hq w => ?_)
  obtain ⟨rfl, hM1⟩ := hq
  rw [hM1] at w
  clear hM1 M1
  have hRC1 : RC y q1 S Mc := ⟨A, tr, f, g, hC, hR⟩
  refine W.widen (k := 21 + 3 * (j + 1)) (n := 35979 + 133 * (j + 1)) (by omega) (by omega) ?_
  have w := w.swap
  refine W.eq (g2 := F0 m 659 ls [.int (sp_what S (xs (6 * j + 1)) (xs (6 * j + 2)))]) rfl ?_
  refine lv_aload_n hx hb dL_law_659 rfl (lv_at hl 3 rfl) ?_
  refine lv_aload_n hx hb dL_law_660 rfl (lv_at hl 1 rfl) ?_
  refine lv_iload_n hx hb dL_law_661 rfl (lv_at hl 0 rfl) ?_
  refine lv_iconst (v := 1) hx hb dL_law_662 (by decide) ?_
  refine lv_iadd hx hb dL_law_663 ?_
  refine m_sld CL w (6 * j + 1) (nI_add _ _) (by omega) dL_law_664 ?_
  refine lv_aload_n hx hb dL_law_665 rfl (lv_at hl 1 rfl) ?_
  refine lv_iload_n hx hb dL_law_666 rfl (lv_at hl 0 rfl) ?_
  refine lv_iconst (v := 2) hx hb dL_law_667 (by decide) ?_
  refine lv_iadd hx hb dL_law_668 ?_
  refine m_sld CL w (6 * j + 2) (nI_add _ _) (by omega) dL_law_669 ?_
  refine m_callV C w hl.1 (As := [.int (xs (6 * j + 1)), .int (xs (6 * j + 2))]) (rest := [.int (sp_what S (xs (6 * j + 1)) (xs (6 * j + 2)))]) (r_what l D y s.heap.size Mr Mc m0 B fr nc cl go bf cn S hW hQ j hI (xs (6 * j + 1)) (xs (6 * j + 2))) gL_law_X4_what rfl hW.1 (T := TX4) (N := 16) rfl (show (_ = _ ∧ _ ≠ _ ∧ _ ≠ _ ∧ _ = some 2) by decide +kernel) ⟨Nat.le_of_ble_eq_true rfl, Nat.le_of_ble_eq_true rfl⟩ rfl (Nat.le_of_ble_eq_true rfl) dL_law_670 ⟨by show _ ≤ 600000; omega, by show _ ≤ 7302250; omega⟩ (fun v M2 H locs hq w => ?_)
  obtain ⟨rfl, hM1⟩ := hq
  rw [hM1] at w
  clear hM1 M2
  have hRM1 : RM y m0 S Mr := ⟨B, fr, nc, cl, go, bf, cn, hW, hQ⟩
  have w := w.swap
  refine W.eq (g2 := F0 m 673 ls [.int (sp_what S (xs (6 * j + 1)) (xs (6 * j + 2))), .int (sp_what S (xs (6 * j + 1)) (xs (6 * j + 2)))]) rfl ?_
  refine lv_icmp_eq (tgt := 768) hx hb dL_law_673 (by decide) (fun _ => ?_) (fun h => absurd rfl h)
  exact next _ _ _ _ _ ls hRC1 hRM1 (hI.up (Nat.le_succ j) hj5) w hl
set_option maxRecDepth 100000 in
set_option maxHeartbeats 4000000 in
theorem law_at {p : Program} {l : Launch} {e : Env} {s : State} {m : MethodId} {below : List Frame} {meth : Method} {c : Code} {D : va_G} {y : mY} {b L : Nat} {xs : Nat → Int32} (CL : lwC p s m meth c b L xs D y) (q1 m0 j : Nat) (hj : 6 * j + 6 ≤ L) (S : St) (Mc Mr : mp) (hRC : RC y q1 S Mc) (hRM : RM y m0 S Mr) (hI : Inv j S) (H : Heap) (locs : List Loc) (ls : Array Slot) (w : mS D s.heap.size Mc Mr s H locs) (hl : lv_has ls 4 [(3, .int (nI (6 * j))), (0, .ref b), (1, .ref q1), (2, .ref m0)]) (next : (∀ (S' : St) (Mc' Mr' : mp) (H : Heap) (locs : List Loc) (ls : Array Slot), RC y q1 S' Mc' → RM y m0 S' Mr' → Inv (j + 1) S' → mS D s.heap.size Mc' Mr' s H locs → lv_has ls 4 [(3, .int (nI (6 * j))), (0, .ref b), (1, .ref q1), (2, .ref m0)] → W p l e room_1 s m #[Value.ref b] below meth c H locs (21 + 3 * (j + 1)) (35979 + 133 * (j + 1)) (lw_Z below #[Value.ref b] s) (F0 m 768 ls []))) : W p l e room_1 s m #[Value.ref b] below meth c H locs (21 + 3 * j) (35979 + 133 * j) (lw_Z below #[Value.ref b] s) (F0 m 678 ls []) := by
  have hL := CL.2.2.2
  have C := CL.1
  have hx := C.1
  have hb := C.2.1
  have hj5 : j + 1 ≤ 512 := by omega
  obtain ⟨A, tr, f, g, hC, hR⟩ := hRC
  obtain ⟨B, fr, nc, cl, go, bf, cn, hW, hQ⟩ := hRM
  refine lv_aload_n hx hb dL_law_678 rfl (lv_at hl 2 rfl) ?_
  refine lv_aload_n hx hb dL_law_679 rfl (lv_at hl 1 rfl) ?_
  refine lv_iload_n hx hb dL_law_680 rfl (lv_at hl 0 rfl) ?_
  refine lv_iconst (v := 1) hx hb dL_law_681 (by decide) ?_
  refine lv_iadd hx hb dL_law_682 ?_
  refine m_sld CL w (6 * j + 1) (nI_add _ _) (by omega) dL_law_683 ?_
  refine lv_aload_n hx hb dL_law_684 rfl (lv_at hl 1 rfl) ?_
  refine lv_iload_n hx hb dL_law_685 rfl (lv_at hl 0 rfl) ?_
  refine lv_iconst (v := 2) hx hb dL_law_686 (by decide) ?_
  refine lv_iadd hx hb dL_law_687 ?_
  refine m_sld CL w (6 * j + 2) (nI_add _ _) (by omega) dL_law_688 ?_
  refine m_callV C w hl.1 (As := [.int (xs (6 * j + 1)), .int (xs (6 * j + 2))]) (rest := []) (c_at l D y s.heap.size Mc Mr q1 A tr f g S hC j hI hR (xs (6 * j + 1)) (xs (6 * j + 2))) gL_law_X3_at rfl hC.1.1 (T := TX3) (N := 7) rfl (show (_ = _ ∧ _ ≠ _ ∧ _ ≠ _ ∧ _ = some 2) by decide +kernel) ⟨Nat.le_of_ble_eq_true rfl, Nat.le_of_ble_eq_true rfl⟩ rfl (Nat.le_of_ble_eq_true rfl) dL_law_689 ⟨by show _ ≤ 600000; omega, by show _ ≤ 7302250; omega⟩ (fun v M1 H locs hq w => ?_)
  obtain ⟨rfl, hM1⟩ := hq
  rw [hM1] at w
  clear hM1 M1
  have hRC1 : RC y q1 S Mc := ⟨A, tr, f, g, hC, hR⟩
  refine W.widen (k := 21 + 3 * (j + 1)) (n := 35979 + 133 * (j + 1)) (by omega) (by omega) ?_
  have w := w.swap
  refine W.eq (g2 := F0 m 692 ls [.long (sp_at S (xs (6 * j + 1)) (xs (6 * j + 2)))]) rfl ?_
  refine lv_aload_n hx hb dL_law_692 rfl (lv_at hl 3 rfl) ?_
  refine lv_aload_n hx hb dL_law_693 rfl (lv_at hl 1 rfl) ?_
  refine lv_iload_n hx hb dL_law_694 rfl (lv_at hl 0 rfl) ?_
  refine lv_iconst (v := 1) hx hb dL_law_695 (by decide) ?_
  refine lv_iadd hx hb dL_law_696 ?_
  refine m_sld CL w (6 * j + 1) (nI_add _ _) (by omega) dL_law_697 ?_
  refine lv_aload_n hx hb dL_law_698 rfl (lv_at hl 1 rfl) ?_
  refine lv_iload_n hx hb dL_law_699 rfl (lv_at hl 0 rfl) ?_
  refine lv_iconst (v := 2) hx hb dL_law_700 (by decide) ?_
  refine lv_iadd hx hb dL_law_701 ?_
  refine m_sld CL w (6 * j + 2) (nI_add _ _) (by omega) dL_law_702 ?_
  refine m_callV C w hl.1 (As := [.int (xs (6 * j + 1)), .int (xs (6 * j + 2))]) (rest := [.long (sp_at S (xs (6 * j + 1)) (xs (6 * j + 2)))]) (r_at l D y s.heap.size Mr Mc m0 B fr nc cl go bf cn S hW hQ j hI (xs (6 * j + 1)) (xs (6 * j + 2))) gL_law_X4_at rfl hW.1 (T := TX4) (N := 16) rfl (show (_ = _ ∧ _ ≠ _ ∧ _ ≠ _ ∧ _ = some 2) by decide +kernel) ⟨Nat.le_of_ble_eq_true rfl, Nat.le_of_ble_eq_true rfl⟩ rfl (Nat.le_of_ble_eq_true rfl) dL_law_703 ⟨by show _ ≤ 600000; omega, by show _ ≤ 7302250; omega⟩ (fun v M2 H locs hq w => ?_)
  obtain ⟨rfl, hM1⟩ := hq
  rw [hM1] at w
  clear hM1 M2
  have hRM1 : RM y m0 S Mr := ⟨B, fr, nc, cl, go, bf, cn, hW, hQ⟩
  have w := w.swap
  refine W.eq (g2 := F0 m 706 ls [.long (sp_at S (xs (6 * j + 1)) (xs (6 * j + 2))), .long (sp_at S (xs (6 * j + 1)) (xs (6 * j + 2)))]) rfl ?_
  refine W.lcmp hx hb dL_law_706 ?_
  refine lv_if_eq (tgt := 768) hx hb dL_law_707 (by decide) (fun _ => ?_) (fun h => absurd ((lg_cmp_eq _ _).mpr rfl) h)
  exact next _ _ _ _ _ ls hRC1 hRM1 (hI.up (Nat.le_succ j) hj5) w hl
set_option maxRecDepth 100000 in
set_option maxHeartbeats 4000000 in
theorem law_polished {p : Program} {l : Launch} {e : Env} {s : State} {m : MethodId} {below : List Frame} {meth : Method} {c : Code} {D : va_G} {y : mY} {b L : Nat} {xs : Nat → Int32} (CL : lwC p s m meth c b L xs D y) (q1 m0 j : Nat) (hj : 6 * j + 6 ≤ L) (S : St) (Mc Mr : mp) (hRC : RC y q1 S Mc) (hRM : RM y m0 S Mr) (hI : Inv j S) (H : Heap) (locs : List Loc) (ls : Array Slot) (w : mS D s.heap.size Mc Mr s H locs) (hl : lv_has ls 4 [(3, .int (nI (6 * j))), (0, .ref b), (1, .ref q1), (2, .ref m0)]) (next : (∀ (S' : St) (Mc' Mr' : mp) (H : Heap) (locs : List Loc) (ls : Array Slot), RC y q1 S' Mc' → RM y m0 S' Mr' → Inv (j + 1) S' → mS D s.heap.size Mc' Mr' s H locs → lv_has ls 4 [(3, .int (nI (6 * j))), (0, .ref b), (1, .ref q1), (2, .ref m0)] → W p l e room_1 s m #[Value.ref b] below meth c H locs (21 + 3 * (j + 1)) (35979 + 133 * (j + 1)) (lw_Z below #[Value.ref b] s) (F0 m 768 ls []))) : W p l e room_1 s m #[Value.ref b] below meth c H locs (21 + 3 * j) (35979 + 133 * j) (lw_Z below #[Value.ref b] s) (F0 m 712 ls []) := by
  have hL := CL.2.2.2
  have C := CL.1
  have hx := C.1
  have hb := C.2.1
  have hj5 : j + 1 ≤ 512 := by omega
  obtain ⟨A, tr, f, g, hC, hR⟩ := hRC
  obtain ⟨B, fr, nc, cl, go, bf, cn, hW, hQ⟩ := hRM
  refine lv_aload_n hx hb dL_law_712 rfl (lv_at hl 2 rfl) ?_
  refine lv_aload_n hx hb dL_law_713 rfl (lv_at hl 1 rfl) ?_
  refine lv_iload_n hx hb dL_law_714 rfl (lv_at hl 0 rfl) ?_
  refine lv_iconst (v := 1) hx hb dL_law_715 (by decide) ?_
  refine lv_iadd hx hb dL_law_716 ?_
  refine m_sld CL w (6 * j + 1) (nI_add _ _) (by omega) dL_law_717 ?_
  refine lv_aload_n hx hb dL_law_718 rfl (lv_at hl 1 rfl) ?_
  refine lv_iload_n hx hb dL_law_719 rfl (lv_at hl 0 rfl) ?_
  refine lv_iconst (v := 2) hx hb dL_law_720 (by decide) ?_
  refine lv_iadd hx hb dL_law_721 ?_
  refine m_sld CL w (6 * j + 2) (nI_add _ _) (by omega) dL_law_722 ?_
  refine m_callV C w hl.1 (As := [.int (xs (6 * j + 1)), .int (xs (6 * j + 2))]) (rest := []) (c_polished l D y s.heap.size Mc Mr q1 A tr f g S hC j hI hR (xs (6 * j + 1)) (xs (6 * j + 2))) gL_law_X3_polished rfl hC.1.1 (T := TX3) (N := 7) rfl (show (_ = _ ∧ _ ≠ _ ∧ _ ≠ _ ∧ _ = some 2) by decide +kernel) ⟨Nat.le_of_ble_eq_true rfl, Nat.le_of_ble_eq_true rfl⟩ rfl (Nat.le_of_ble_eq_true rfl) dL_law_723 ⟨by show _ ≤ 600000; omega, by show _ ≤ 7302250; omega⟩ (fun v M1 H locs hq w => ?_)
  obtain ⟨rfl, hM1⟩ := hq
  rw [hM1] at w
  clear hM1 M1
  have hRC1 : RC y q1 S Mc := ⟨A, tr, f, g, hC, hR⟩
  refine W.widen (k := 21 + 3 * (j + 1)) (n := 35979 + 133 * (j + 1)) (by omega) (by omega) ?_
  have w := w.swap
  refine W.eq (g2 := F0 m 726 ls [.int (sp_polished S (xs (6 * j + 1)) (xs (6 * j + 2)))]) rfl ?_
  refine lv_aload_n hx hb dL_law_726 rfl (lv_at hl 3 rfl) ?_
  refine lv_aload_n hx hb dL_law_727 rfl (lv_at hl 1 rfl) ?_
  refine lv_iload_n hx hb dL_law_728 rfl (lv_at hl 0 rfl) ?_
  refine lv_iconst (v := 1) hx hb dL_law_729 (by decide) ?_
  refine lv_iadd hx hb dL_law_730 ?_
  refine m_sld CL w (6 * j + 1) (nI_add _ _) (by omega) dL_law_731 ?_
  refine lv_aload_n hx hb dL_law_732 rfl (lv_at hl 1 rfl) ?_
  refine lv_iload_n hx hb dL_law_733 rfl (lv_at hl 0 rfl) ?_
  refine lv_iconst (v := 2) hx hb dL_law_734 (by decide) ?_
  refine lv_iadd hx hb dL_law_735 ?_
  refine m_sld CL w (6 * j + 2) (nI_add _ _) (by omega) dL_law_736 ?_
  refine m_callV C w hl.1 (As := [.int (xs (6 * j + 1)), .int (xs (6 * j + 2))]) (rest := [.int (sp_polished S (xs (6 * j + 1)) (xs (6 * j + 2)))]) (r_polished l D y s.heap.size Mr Mc m0 B fr nc cl go bf cn S hW hQ j hI (xs (6 * j + 1)) (xs (6 * j + 2))) gL_law_X4_polished rfl hW.1 (T := TX4) (N := 16) rfl (show (_ = _ ∧ _ ≠ _ ∧ _ ≠ _ ∧ _ = some 2) by decide +kernel) ⟨Nat.le_of_ble_eq_true rfl, Nat.le_of_ble_eq_true rfl⟩ rfl (Nat.le_of_ble_eq_true rfl) dL_law_737 ⟨by show _ ≤ 600000; omega, by show _ ≤ 7302250; omega⟩ (fun v M2 H locs hq w => ?_)
  obtain ⟨rfl, hM1⟩ := hq
  rw [hM1] at w
  clear hM1 M2
  have hRM1 : RM y m0 S Mr := ⟨B, fr, nc, cl, go, bf, cn, hW, hQ⟩
  have w := w.swap
  refine W.eq (g2 := F0 m 740 ls [.int (sp_polished S (xs (6 * j + 1)) (xs (6 * j + 2))), .int (sp_polished S (xs (6 * j + 1)) (xs (6 * j + 2)))]) rfl ?_
  refine lv_icmp_eq (tgt := 768) hx hb dL_law_740 (by decide) (fun _ => ?_) (fun h => absurd rfl h)
  exact next _ _ _ _ _ ls hRC1 hRM1 (hI.up (Nat.le_succ j) hj5) w hl
set_option maxRecDepth 100000 in
set_option maxHeartbeats 4000000 in
theorem law_told {p : Program} {l : Launch} {e : Env} {s : State} {m : MethodId} {below : List Frame} {meth : Method} {c : Code} {D : va_G} {y : mY} {b L : Nat} {xs : Nat → Int32} (CL : lwC p s m meth c b L xs D y) (q1 m0 j : Nat) (hj : 6 * j + 6 ≤ L) (S : St) (Mc Mr : mp) (hRC : RC y q1 S Mc) (hRM : RM y m0 S Mr) (hI : Inv j S) (H : Heap) (locs : List Loc) (ls : Array Slot) (w : mS D s.heap.size Mc Mr s H locs) (hl : lv_has ls 4 [(3, .int (nI (6 * j))), (0, .ref b), (1, .ref q1), (2, .ref m0)]) (next : (∀ (S' : St) (Mc' Mr' : mp) (H : Heap) (locs : List Loc) (ls : Array Slot), RC y q1 S' Mc' → RM y m0 S' Mr' → Inv (j + 1) S' → mS D s.heap.size Mc' Mr' s H locs → lv_has ls 4 [(3, .int (nI (6 * j))), (0, .ref b), (1, .ref q1), (2, .ref m0)] → W p l e room_1 s m #[Value.ref b] below meth c H locs (21 + 3 * (j + 1)) (35979 + 133 * (j + 1)) (lw_Z below #[Value.ref b] s) (F0 m 768 ls []))) : W p l e room_1 s m #[Value.ref b] below meth c H locs (21 + 3 * j) (35979 + 133 * j) (lw_Z below #[Value.ref b] s) (F0 m 745 ls []) := by
  have hL := CL.2.2.2
  have C := CL.1
  have hx := C.1
  have hb := C.2.1
  have hj5 : j + 1 ≤ 512 := by omega
  obtain ⟨A, tr, f, g, hC, hR⟩ := hRC
  obtain ⟨B, fr, nc, cl, go, bf, cn, hW, hQ⟩ := hRM
  refine lv_aload_n hx hb dL_law_745 rfl (lv_at hl 2 rfl) ?_
  refine lv_aload_n hx hb dL_law_746 rfl (lv_at hl 1 rfl) ?_
  refine lv_iload_n hx hb dL_law_747 rfl (lv_at hl 0 rfl) ?_
  refine lv_iconst (v := 1) hx hb dL_law_748 (by decide) ?_
  refine lv_iadd hx hb dL_law_749 ?_
  refine m_sld CL w (6 * j + 1) (nI_add _ _) (by omega) dL_law_750 ?_
  refine m_callV C w hl.1 (As := [.int (xs (6 * j + 1))]) (rest := []) (c_told l D y s.heap.size Mc Mr q1 A tr f g S hC j hI hR (xs (6 * j + 1))) gL_law_X3_told rfl hC.1.1 (T := TX3) (N := 7) rfl (show (_ = _ ∧ _ ≠ _ ∧ _ ≠ _ ∧ _ = some 1) by decide +kernel) ⟨Nat.le_of_ble_eq_true rfl, Nat.le_of_ble_eq_true rfl⟩ rfl (Nat.le_of_ble_eq_true rfl) dL_law_751 ⟨by show _ ≤ 600000; omega, by show _ ≤ 7302250; omega⟩ (fun v M1 H locs hq w => ?_)
  obtain ⟨rfl, hM1⟩ := hq
  rw [hM1] at w
  clear hM1 M1
  have hRC1 : RC y q1 S Mc := ⟨A, tr, f, g, hC, hR⟩
  refine W.widen (k := 21 + 3 * (j + 1)) (n := 35979 + 133 * (j + 1)) (by omega) (by omega) ?_
  have w := w.swap
  refine W.eq (g2 := F0 m 754 ls [.int (sp_told S (xs (6 * j + 1)))]) rfl ?_
  refine lv_aload_n hx hb dL_law_754 rfl (lv_at hl 3 rfl) ?_
  refine lv_aload_n hx hb dL_law_755 rfl (lv_at hl 1 rfl) ?_
  refine lv_iload_n hx hb dL_law_756 rfl (lv_at hl 0 rfl) ?_
  refine lv_iconst (v := 1) hx hb dL_law_757 (by decide) ?_
  refine lv_iadd hx hb dL_law_758 ?_
  refine m_sld CL w (6 * j + 1) (nI_add _ _) (by omega) dL_law_759 ?_
  refine m_callV C w hl.1 (As := [.int (xs (6 * j + 1))]) (rest := [.int (sp_told S (xs (6 * j + 1)))]) (r_told l D y s.heap.size Mr Mc m0 B fr nc cl go bf cn S hW hQ j hI (xs (6 * j + 1))) gL_law_X4_told rfl hW.1 (T := TX4) (N := 16) rfl (show (_ = _ ∧ _ ≠ _ ∧ _ ≠ _ ∧ _ = some 1) by decide +kernel) ⟨Nat.le_of_ble_eq_true rfl, Nat.le_of_ble_eq_true rfl⟩ rfl (Nat.le_of_ble_eq_true rfl) dL_law_760 ⟨by show _ ≤ 600000; omega, by show _ ≤ 7302250; omega⟩ (fun v M2 H locs hq w => ?_)
  obtain ⟨rfl, hM1⟩ := hq
  rw [hM1] at w
  clear hM1 M2
  have hRM1 : RM y m0 S Mr := ⟨B, fr, nc, cl, go, bf, cn, hW, hQ⟩
  have w := w.swap
  refine W.eq (g2 := F0 m 763 ls [.int (sp_told S (xs (6 * j + 1))), .int (sp_told S (xs (6 * j + 1)))]) rfl ?_
  refine lv_icmp_eq (tgt := 768) hx hb dL_law_763 (by decide) (fun _ => ?_) (fun h => absurd rfl h)
  exact next _ _ _ _ _ ls hRC1 hRM1 (hI.up (Nat.le_succ j) hj5) w hl
