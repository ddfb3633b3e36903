/-! the world as two maps: M, a method's own cells by their addresses, and F, the frame that it leaves as it is; all lie from S0 on -/
abbrev mp : Type := Nat → Option va_E
abbrev mY : Type := ClassId × ClassId × ClassId × ClassId
abbrev mtys (y : mY) : List (ClassId × FieldType) := [(y.1, .int), (y.2.1, .long), (y.2.2.1, .object RX0), (y.2.2.2, .object RX2)]
abbrev eI (y : mY) (n : Nat) (f : Nat → Int32) : va_E := .inl (y.1, n, .inl f)
abbrev eL (y : mY) (n : Nat) (f : Nat → Int64) : va_E := .inl (y.2.1, n, .inr (.inl f))
abbrev eH (y : mY) (n : Nat) (f : Nat → Option Nat) : va_E := .inl (y.2.2.1, n, .inr (.inr (.inr (.inr f))))
abbrev eT (y : mY) (n : Nat) (f : Nat → Option Nat) : va_E := .inl (y.2.2.2, n, .inr (.inr (.inr (.inr f))))
abbrev eO (ci : Nat) (fs : List Value) : va_E := .inr (ci, fs)
def mnw : List Cond := [.fieldLinkNest "BeadBench" 43 "BeadBench$Holding" "kind" "I" "BeadBench", .fieldLinkNest "BeadBench" 89 "BeadBench$Holding" "size" "I" "BeadBench", .fieldLinkNest "BeadBench" 125 "BeadBench$Holding" "ticketNumber" "I" "BeadBench", .fieldLinkNest "BeadBench" 61 "BeadBench$Holding" "numbers" "[J" "BeadBench", .fieldLinkNest "BeadBench" 73 "BeadBench$Holding" "things" "[LBeadBench$Thing;" "BeadBench", .fieldLinkNest "BeadBench" 122 "BeadBench$Piece" "number" "I" "BeadBench", .fieldLinkNest "BeadBench" 119 "BeadBench$Piece" "gloss" "I" "BeadBench", .methodLinkNest "BeadBench$Holding" 3 yX2_init "BeadBench", .methodLinkNest "BeadBench$Piece" 1 yX2_init "BeadBench", .castable "BeadBench$Piece" "BeadBench$Piece", .castable "BeadBench$Holding" "BeadBench$Thing", .castable "BeadBench$Piece" "BeadBench$Thing", .declares ⟨"BeadBench$Thing", "sortOfThing", "()I"⟩, .declares ⟨"BeadBench$Thing", "count", "()I"⟩, .declares ⟨"BeadBench$Thing", "shine", "()I"⟩]
theorem mnw_tbl : ∀ w ∈ mnw, w ∈ tables_1 := by decide +kernel
def mT (D : va_G) (y : mY) (U : State) : Prop := va_K D vwCl (mtys y) U ∧ (∀ w ∈ mnw, va_Nw w U) ∧ va_Nc RX0 RX1 U ∧ va_AO RX0 U ∧ va_AO RX2 U
theorem mT.warm {D : va_G} {y : mY} {s U : State} (hW : s.WarmedH U.vm) (h : mT D y s) : mT D y U := by
  obtain ⟨h1, h2, h3, h4, h5⟩ := h
  refine ⟨va_K.moved hW.alike h1, ?_, h3.moved hW.alike, h4.moved hW.alike, h5.moved hW.alike⟩
  unfold mnw at h2 ⊢
  simp only [List.forall_mem_cons] at h2 ⊢
  obtain ⟨a1, a2, a3, a4, a5, a6, a7, a8, a9, a10, a11, a12, a13, a14, a15, -⟩ := h2
  exact ⟨a1.warmF hW, a2.warmF hW, a3.warmF hW, a4.warmF hW, a5.warmF hW, a6.warmF hW, a7.warmF hW, a8.warmM hW, a9.warmM hW, a10.warmC hW, a11.warmC hW, a12.warmC hW, a13.warmD hW, a14.warmD hW, a15.warmD hW, fun _ h => absurd h List.not_mem_nil⟩
theorem mT.same {D : va_G} {y : mY} {s U : State} (e : s.vm = U.vm) (h : mT D y s) : mT D y U := by
  obtain ⟨h1, h2, h3, h4, h5⟩ := h
  have hA : s.vm.Alike U.vm := by rw [e]; exact Vm.Alike.refl U.vm
  refine ⟨va_K.moved hA h1, fun w hw => ?_, h3.moved hA, h4.moved hA, h5.moved hA⟩
  have : w.onTables = true := by
    revert w hw
    decide +kernel
  exact (h2 w hw).same this e
def mu (M : mp) (a : Nat) (e : va_E) : mp := fun q => if q = a then some e else M q
theorem mu_s {M : mp} {a : Nat} {e : va_E} : mu M a e a = some e := if_pos rfl
theorem mu_n {M : mp} {a q : Nat} {e : va_E} (h : q ≠ a) : mu M a e q = M q := if_neg h
theorem mu_k {M : mp} {a q : Nat} {e x : va_E} (h : q ≠ a) (hx : M q = some x) : mu M a e q = some x := (mu_n h).trans hx
theorem m_ne {M : mp} {a b : Nat} {x z : va_E} (ha : M a = some x) (hb : M b = some z) (h : x ≠ z) : a ≠ b := fun q => h (Option.some.inj (ha.symm.trans ((congrArg M q).trans hb)))
theorem m_fr {M : mp} {a q : Nat} {x : va_E} (ha : M a = some x) (hq : M q = none) : a ≠ q := fun e => by rw [e, hq] at ha; cases ha
def mw (D : va_G) (S0 : Nat) (M F : mp) (H : Heap) : Prop := ∃ ws : va_W, va_P D vwCl ws H ∧ va_D (fun q => S0 ≤ q) ws ∧ (∀ a e, M a = some e → (a, e) ∈ ws) ∧ (∀ a e, F a = some e → (a, e) ∈ ws) ∧ ∀ a e, M a = some e → F a = none
theorem mw_set {D : va_G} {S0 : Nat} {M F : mp} {H1 : Heap} {ws : va_W} {k a : Nat} {e0 e : va_E} (hP : va_P D vwCl (ws.set k (a, e)) H1) (hD : va_D (fun q => S0 ≤ q) (ws.set k (a, e))) (hk : ws[k]? = some (a, e0)) (hM : ∀ a e, M a = some e → (a, e) ∈ ws) (hF : ∀ a e, F a = some e → (a, e) ∈ ws) (hdj : ∀ a e, M a = some e → F a = none) (ha : M a = some e0) : mw D S0 (mu M a e) F H1 := by
  have keep : ∀ (b : Nat) (x : va_E), b ≠ a → (b, x) ∈ ws → (b, x) ∈ ws.set k (a, e) := by
    intro b x hb hx
    obtain ⟨j, hj⟩ := List.getElem?_of_mem hx
    have hjk : k ≠ j := fun q => hb (by rw [← q, hk] at hj; cases hj; rfl)
    exact List.mem_of_getElem? (i := j) (by rw [List.getElem?_set_ne hjk]; exact hj)
  have hlt : k < ws.length := (List.getElem?_eq_some_iff.mp hk).1
  refine ⟨_, hP, hD, fun b x h => ?_, fun b x h => ?_, fun b x h => ?_⟩
  · by_cases hb : b = a
    · subst hb
      rw [mu_s] at h
      cases h
      exact List.mem_of_getElem? (i := k) (by rw [List.getElem?_set_self hlt])
    · rw [mu_n hb] at h
      exact keep b x hb (hM b x h)
  · have hb : b ≠ a := fun q => by rw [q, hdj a e0 ha] at h; cases h
    exact keep b x hb (hF b x h)
  · by_cases hb : b = a
    · rw [hb]
      exact hdj a e0 ha
    · rw [mu_n hb] at h
      exact hdj b x h
theorem mw_push {D : va_G} {S0 : Nat} {M F : mp} {H1 : Heap} {ws : va_W} {q : Nat} {e : va_E} (hP : va_P D vwCl (ws ++ [(q, e)]) H1) (hD : va_D (fun q => S0 ≤ q) (ws ++ [(q, e)])) (hM : ∀ a e, M a = some e → (a, e) ∈ ws) (hF : ∀ a e, F a = some e → (a, e) ∈ ws) (hdj : ∀ a e, M a = some e → F a = none) : mw D S0 (mu M q e) F H1 ∧ M q = none ∧ F q = none := by
  have hno : ∀ x, (q, x) ∉ ws := by
    intro x hx
    obtain ⟨j, hj⟩ := List.getElem?_of_mem hx
    have hl : j < ws.length := (List.getElem?_eq_some_iff.mp hj).1
    have := hD.1 j ws.length (q, x) (q, e) (by rw [List.getElem?_append_left hl]; exact hj) (by rw [List.getElem?_append_right (Nat.le_refl _)]; simp) rfl
    omega
  have hMq : M q = none := by
    cases h : M q with
    | none => rfl
    | some x => exact absurd (hM q x h) (hno x)
  have hFq : F q = none := by
    cases h : F q with
    | none => rfl
    | some x => exact absurd (hF q x h) (hno x)
  refine ⟨⟨_, hP, hD, fun b x h => ?_, fun b x h => List.mem_append_left _ (hF b x h), fun b x h => ?_⟩, hMq, hFq⟩
  · by_cases hb : b = q
    · subst hb
      rw [mu_s] at h
      cases h
      exact List.mem_append_right _ (List.mem_singleton.mpr rfl)
    · rw [mu_n hb] at h
      exact List.mem_append_left _ (hM b x h)
  · by_cases hb : b = q
    · rw [hb]
      exact hFq
    · rw [mu_n hb] at h
      exact hdj b x h
theorem mw.swap {D : va_G} {S0 : Nat} {M F : mp} {H : Heap} (h : mw D S0 M F H) : mw D S0 F M H := by
  obtain ⟨ws, h1, h2, h3, h4, h5⟩ := h
  refine ⟨ws, h1, h2, h4, h3, fun a e h => ?_⟩
  cases hm : M a with
  | none => rfl
  | some x => rw [h5 a x hm] at h; cases h
def mC (p : Program) (s : State) (m : MethodId) (args : Array Value) (meth : Method) (c : Code) (cc : ByteArray) (nL : Nat) (own : String) (Ts : List Cond) (rt : Option FieldType) (D : va_G) (y : mY) (S0 : Nat) : Prop :=
  p.tables.exec = Jvm.exec ∧ c.code = cc ∧ c.maxLocals = nL ∧ s.vm.findClass own = some m.cls ∧ (∀ w ∈ Ts, w.before args s = true) ∧ meth.sig.returnType = rt ∧ meth.locks = false ∧ mT D y s ∧ S0 ≤ s.heap.size
def mS (D : va_G) (S0 : Nat) (M F : mp) (s : State) (H : Heap) (locs : List Loc) : Prop := mw D S0 M F H ∧ va_S (fun q => S0 ≤ q) s.heap H locs
def mQ (D : va_G) (S0 : Nat) (F : mp) (post : Option Value → mp → Prop) : Array Value → State → Outcome → State → Prop := fun _ st oc t => (∃ (v : Option Value) (M' : mp), oc = .returned v ∧ post v M' ∧ mw D S0 M' F t.heap) ∧ va_F (fun q => S0 ≤ q) st t
/-- a contract: from the map M (beside the frame F) the method returns v, with the map M', 'post v M'' -/
def ct (l : Launch) (yn : MethodName) (ws : List Cond) (fr lo mc ms : Nat) (D : va_G) (y : mY) (S0 : Nat) (M F : mp) (av : List Value) (post : Option Value → mp → Prop) : Prop :=
  Met l yn ws { frames := fr, cells := mc, slots := ms, locals := lo } (va_Pc av (fun U => mw D S0 M F U.heap ∧ mT D y U ∧ S0 ≤ U.heap.size)) (mQ D S0 F post) mc ms (fun q => S0 ≤ q)
theorem ct_of {l : Launch} {yn : MethodName} {ws ws' : List Cond} {fr lo mc ms : Nat} {D : va_G} {y : mY} {S0 : Nat} {M F : mp} {av : List Value} {post : Option Value → mp → Prop} (cc : ByteArray) (maxL : Nat) (ret : Option FieldType) (lv : List (Nat × Value))
    (hy : plainName yn.cls = true) (hw : ws = Cond.code yn cc maxL ret :: ws') (hlen : (lg_sl av).length ≤ maxL) (hlv : lv_args 0 av = lv)
    (body : ∀ (p : Program) (e : Env) (s : State) (m : MethodId) (below : List Frame) (meth : Method) (c : Code) (ls : Array Slot), mC p s m av.toArray meth c cc maxL yn.cls ws ret D y S0 → meth.name = yn.name → lv_has ls maxL lv → mS D S0 M F s s.heap [] →
      W p l e { frames := fr, cells := mc, slots := ms, locals := lo } s m av.toArray below meth c s.heap [] 0 0 (MQ below (mQ D S0 F post) av.toArray s mc ms (fun q => S0 ≤ q)) (F0 m 0 ls [])) :
    ct l yn ws fr lo mc ms D y S0 M F av post := by
  refine Met.ofW (cc := cc) (maxL := maxL) (ret := ret) hy hw ?_
  intro p e s m args below meth c s₁ B hml hv
  obtain ⟨rfl, hm, hT, hsz⟩ := hv
  have hl := lv_entry av (n := maxL) hlen
  rw [lg_entry_eq]
  rw [hlv] at hl
  exact body p e s m below meth c _ ⟨B.exec, B.bytes, hml, findClass_of_methodNamed B.named, atoms_spec (ws := ws) B.pre, B.returns, B.notSynchronized, hT, hsz⟩ (name_of_methodNamed B.named B.method).1 hl ⟨hm, va_S.rf⟩
section MW
variable {p : Program} {l : Launch} {e : Env} {R : Room} {s : State} {m : MethodId} {args : Array Value} {below : List Frame} {meth : Method} {c : Code} {H : Heap} {locs : List Loc} {cells slots : Nat} {Q : State → Prop}
variable {cc : ByteArray} {pc : Nat} {ls : Array Slot} {rest st0 : List Value} {D : va_G} {y : mY} {S0 : Nat} {M F : mp} {nL : Nat} {own : String} {Ts : List Cond} {rt : Option FieldType} {post : Option Value → mp → Prop} {mc ms : Nat}
theorem m_at (w : mS D S0 M F s H locs) {a : Nat} {x : va_E} (ha : M a = some x) : ∃ (ws : va_W) (k : Nat), va_P D vwCl ws H ∧ ws[k]? = some (a, x) := by
  obtain ⟨⟨ws, h1, h2, h3, -⟩, -⟩ := w
  obtain ⟨k, hk⟩ := List.getElem?_of_mem (h3 a x ha)
  exact ⟨ws, k, h1, hk⟩
theorem m_get (C : mC p s m args meth c cc nL own Ts rt D y S0) (w : mS D S0 M F s H locs) {a ci : Nat} {fs : List Value} (ha : M a = some (eO ci fs)) {Cn : String} {T : u_T} {N index : Nat} (hc : vwCl[ci]? = some (Cn, T, N)) (hin : ∀ w ∈ u_ws Cn T N, w ∈ Ts) (k : Nat) (hk : k < N) (hl : Cond.fieldLink own index (T k).1 (T k).2.1 (T k).2.2.1 ∈ Ts) {v : Value} (hv : fs[k]? = some v) (hdg : decode cc pc = .ok (.getfield index, 3))
    (kk : W p l e R s m args below meth c H locs cells slots Q (F0 m (pc + 3) ls (v :: rest))) : W p l e R s m args below meth c H locs cells slots Q (F0 m pc ls (.ref a :: rest)) := by
  obtain ⟨ws, q0, hP, he⟩ := m_at w ha
  exact va_get C.1 C.2.1 C.2.2.2.2.1 hin C.2.2.2.1 C.2.2.2.2.2.2.2.1.1 hP q0 he hc k hk (C.2.2.2.2.1 _ hl) (fun _ h => h) hv hdg kk
theorem m_getN (C : mC p s m args meth c cc nL own Ts rt D y S0) (w : mS D S0 M F s H locs) {a ci : Nat} {fs : List Value} (ha : M a = some (eO ci fs)) {Cn host : String} {T : u_T} {N index : Nat} (hc : vwCl[ci]? = some (Cn, T, N)) (hin : ∀ w ∈ u_ws Cn T N, w ∈ Ts) (k : Nat) (hk : k < N) (hl : Cond.fieldLinkNest own index (T k).1 (T k).2.1 (T k).2.2.1 host ∈ mnw) {v : Value} (hv : fs[k]? = some v) (hdg : decode cc pc = .ok (.getfield index, 3))
    (kk : W p l e R s m args below meth c H locs cells slots Q (F0 m (pc + 3) ls (v :: rest))) : W p l e R s m args below meth c H locs cells slots Q (F0 m pc ls (.ref a :: rest)) := by
  obtain ⟨ws, q0, hP, he⟩ := m_at w ha
  exact va_getN C.1 C.2.1 C.2.2.2.2.1 hin C.2.2.2.1 C.2.2.2.2.2.2.2.1.1 hP q0 he hc k hk (va_Nw.use rfl (C.2.2.2.2.2.2.2.1.2.1 _ hl)) (fun _ h => h) hv hdg kk
theorem m_put (C : mC p s m args meth c cc nL own Ts rt D y S0) (w : mS D S0 M F s H locs) {a ci : Nat} {fs : List Value} (ha : M a = some (eO ci fs)) {Cn : String} {T : u_T} {N index : Nat} (hc : vwCl[ci]? = some (Cn, T, N)) (hin : ∀ w ∈ u_ws Cn T N, w ∈ Ts) (ty0 : Nat → FieldType) (hty : ∀ k, k < N → parseFieldDescriptor (T k).2.2.1 = some (ty0 k)) (hnm : ∀ a, a < N → ∀ b, b < N → a ≠ b → (T a).2.1 ≠ (T b).2.1) (k : Nat) (hk : k < N) (hl : Cond.fieldLink own index (T k).1 (T k).2.1 (T k).2.2.1 ∈ Ts) (hfin : (T k).2.2.2 = false) {ty : FieldType} {v : Value} (hd : parseFieldDescriptor (T k).2.2.1 = some ty) (hn : narrow ty v = v) (hfit : fits ty v = true) (hlen : k < fs.length) (hdg : decode cc pc = .ok (.putfield index, 3))
    (kk : ∀ (H1 : Heap) (locs1 : List Loc), mS D S0 (mu M a (eO ci (fs.set k v))) F s H1 locs1 → W p l e R s m args below meth c H1 locs1 cells slots Q (F0 m (pc + 3) ls rest)) : W p l e R s m args below meth c H locs cells slots Q (F0 m pc ls (v :: .ref a :: rest)) := by
  obtain ⟨⟨ws, hP, hD, hM, hF, hdj⟩, hS⟩ := w
  obtain ⟨q0, he⟩ := List.getElem?_of_mem (hM a _ ha)
  exact va_put C.1 C.2.1 C.2.2.2.2.1 hin ty0 hty hnm C.2.2.2.1 C.2.2.2.2.2.2.2.1.1 hP hD hS q0 he hc k hk (C.2.2.2.2.1 _ hl) (fun _ h => h) hfin hd hn hfit hlen hdg (fun H1 locs1 hP1 hD1 hS1 => kk H1 locs1 ⟨mw_set hP1 hD1 he hM hF hdj ha, hS1⟩)
theorem m_putN (C : mC p s m args meth c cc nL own Ts rt D y S0) (w : mS D S0 M F s H locs) {a ci : Nat} {fs : List Value} (ha : M a = some (eO ci fs)) {Cn host : String} {T : u_T} {N index : Nat} (hc : vwCl[ci]? = some (Cn, T, N)) (hin : ∀ w ∈ u_ws Cn T N, w ∈ Ts) (ty0 : Nat → FieldType) (hty : ∀ k, k < N → parseFieldDescriptor (T k).2.2.1 = some (ty0 k)) (hnm : ∀ a, a < N → ∀ b, b < N → a ≠ b → (T a).2.1 ≠ (T b).2.1) (k : Nat) (hk : k < N) (hl : Cond.fieldLinkNest own index (T k).1 (T k).2.1 (T k).2.2.1 host ∈ mnw) (hfin : (T k).2.2.2 = false) {ty : FieldType} {v : Value} (hd : parseFieldDescriptor (T k).2.2.1 = some ty) (hn : narrow ty v = v) (hfit : fits ty v = true) (hlen : k < fs.length) (hdg : decode cc pc = .ok (.putfield index, 3))
    (kk : ∀ (H1 : Heap) (locs1 : List Loc), mS D S0 (mu M a (eO ci (fs.set k v))) F s H1 locs1 → W p l e R s m args below meth c H1 locs1 cells slots Q (F0 m (pc + 3) ls rest)) : W p l e R s m args below meth c H locs cells slots Q (F0 m pc ls (v :: .ref a :: rest)) := by
  obtain ⟨⟨ws, hP, hD, hM, hF, hdj⟩, hS⟩ := w
  obtain ⟨q0, he⟩ := List.getElem?_of_mem (hM a _ ha)
  exact va_putN C.1 C.2.1 C.2.2.2.2.1 hin ty0 hty hnm C.2.2.2.1 C.2.2.2.2.2.2.2.1.1 hP hD hS q0 he hc k hk (va_Nw.use rfl (C.2.2.2.2.2.2.2.1.2.1 _ hl)) (fun _ h => h) hfin hd hn hfit hlen hdg (fun H1 locs1 hP1 hD1 hS1 => kk H1 locs1 ⟨mw_set hP1 hD1 he hM hF hdj ha, hS1⟩)
theorem m_putF (C : mC p s m args meth c cc nL own Ts rt D y S0) (w : mS D S0 M F s H locs) {a ci : Nat} {fs : List Value} (ha : M a = some (eO ci fs)) {Cn : String} {T : u_T} {N index : Nat} (hc : vwCl[ci]? = some (Cn, T, N)) (hin : ∀ w ∈ u_ws Cn T N, w ∈ Ts) (ty0 : Nat → FieldType) (hty : ∀ k, k < N → parseFieldDescriptor (T k).2.2.1 = some (ty0 k)) (hnm : ∀ a, a < N → ∀ b, b < N → a ≠ b → (T a).2.1 ≠ (T b).2.1) (k : Nat) (hk : k < N) (hl : Cond.fieldLink own index (T k).1 (T k).2.1 (T k).2.2.1 ∈ Ts) (hfin : (T k).2.2.2 = true) (hin2 : meth.name = "<init>") (hdecl : (T k).1 = own) {ty : FieldType} {v : Value} (hd : parseFieldDescriptor (T k).2.2.1 = some ty) (hn : narrow ty v = v) (hfit : fits ty v = true) (hlen : k < fs.length) (hdg : decode cc pc = .ok (.putfield index, 3))
    (kk : ∀ (H1 : Heap) (locs1 : List Loc), mS D S0 (mu M a (eO ci (fs.set k v))) F s H1 locs1 → W p l e R s m args below meth c H1 locs1 cells slots Q (F0 m (pc + 3) ls rest)) : W p l e R s m args below meth c H locs cells slots Q (F0 m pc ls (v :: .ref a :: rest)) := by
  obtain ⟨⟨ws, hP, hD, hM, hF, hdj⟩, hS⟩ := w
  obtain ⟨q0, he⟩ := List.getElem?_of_mem (hM a _ ha)
  exact va_putF C.1 C.2.1 C.2.2.2.2.1 hin ty0 hty hnm C.2.2.2.1 C.2.2.2.2.2.2.2.1.1 hP hD hS q0 he hc k hk (C.2.2.2.2.1 _ hl) (fun _ h => h) hfin hin2 hdecl hd hn hfit hlen hdg (fun H1 locs1 hP1 hD1 hS1 => kk H1 locs1 ⟨mw_set hP1 hD1 he hM hF hdj ha, hS1⟩)
theorem m_iald (C : mC p s m args meth c cc nL own Ts rt D y S0) (w : mS D S0 M F s H locs) {a n : Nat} {f : Nat → Int32} (ha : M a = some (eI y n f)) {i : Int32} (k : Nat) (hi : i = nI k) (hk : k < n) (hn : n < 2 ^ 31) (hdg : decode cc pc = .ok (.iaload, 1))
    (kk : W p l e R s m args below meth c H locs cells slots Q (F0 m (pc + 1) ls (.int (f k) :: rest))) : W p l e R s m args below meth c H locs cells slots Q (F0 m pc ls (.int i :: .ref a :: rest)) := by
  obtain ⟨ws, q0, hP, he⟩ := m_at w ha
  subst hi
  refine va_iald C.1 C.2.1 C.2.2.2.2.2.2.2.1.1 hP q0 0 he rfl (vp_in_nI hk hn) hdg ?_
  rw [nI_clamp (Nat.lt_trans hk hn)]
  exact kk
theorem m_lald (C : mC p s m args meth c cc nL own Ts rt D y S0) (w : mS D S0 M F s H locs) {a n : Nat} {f : Nat → Int64} (ha : M a = some (eL y n f)) {i : Int32} (k : Nat) (hi : i = nI k) (hk : k < n) (hn : n < 2 ^ 31) (hdg : decode cc pc = .ok (.laload, 1))
    (kk : W p l e R s m args below meth c H locs cells slots Q (F0 m (pc + 1) ls (.long (f k) :: rest))) : W p l e R s m args below meth c H locs cells slots Q (F0 m pc ls (.int i :: .ref a :: rest)) := by
  obtain ⟨ws, q0, hP, he⟩ := m_at w ha
  subst hi
  refine va_lald C.1 C.2.1 C.2.2.2.2.2.2.2.1.1 hP q0 1 he rfl (vp_in_nI hk hn) hdg ?_
  rw [nI_clamp (Nat.lt_trans hk hn)]
  exact kk
theorem m_hald (C : mC p s m args meth c cc nL own Ts rt D y S0) (w : mS D S0 M F s H locs) {a n : Nat} {f : Nat → Option Nat} (ha : M a = some (eH y n f)) {i : Int32} (k : Nat) (hi : i = nI k) (hk : k < n) (hn : n < 2 ^ 31) (hdg : decode cc pc = .ok (.aaload, 1))
    (kk : W p l e R s m args below meth c H locs cells slots Q (F0 m (pc + 1) ls (va_rf (f k) :: rest))) : W p l e R s m args below meth c H locs cells slots Q (F0 m pc ls (.int i :: .ref a :: rest)) := by
  obtain ⟨ws, q0, hP, he⟩ := m_at w ha
  subst hi
  refine va_aldq C.1 C.2.1 C.2.2.2.2.2.2.2.1.1 hP q0 2 he rfl (vp_in_nI hk hn) hdg ?_
  rw [nI_clamp (Nat.lt_trans hk hn)]
  exact kk
theorem m_tald (C : mC p s m args meth c cc nL own Ts rt D y S0) (w : mS D S0 M F s H locs) {a n : Nat} {f : Nat → Option Nat} (ha : M a = some (eT y n f)) {i : Int32} (k : Nat) (hi : i = nI k) (hk : k < n) (hn : n < 2 ^ 31) (hdg : decode cc pc = .ok (.aaload, 1))
    (kk : W p l e R s m args below meth c H locs cells slots Q (F0 m (pc + 1) ls (va_rf (f k) :: rest))) : W p l e R s m args below meth c H locs cells slots Q (F0 m pc ls (.int i :: .ref a :: rest)) := by
  obtain ⟨ws, q0, hP, he⟩ := m_at w ha
  subst hi
  refine va_aldq C.1 C.2.1 C.2.2.2.2.2.2.2.1.1 hP q0 3 he rfl (vp_in_nI hk hn) hdg ?_
  rw [nI_clamp (Nat.lt_trans hk hn)]
  exact kk
theorem m_iast (C : mC p s m args meth c cc nL own Ts rt D y S0) (w : mS D S0 M F s H locs) {a n : Nat} {f : Nat → Int32} (ha : M a = some (eI y n f)) {i x : Int32} (k : Nat) (hi : i = nI k) (hk : k < n) (hn : n < 2 ^ 31) (hdg : decode cc pc = .ok (.iastore, 1))
    (kk : ∀ (H1 : Heap) (locs1 : List Loc), mS D S0 (mu M a (eI y n (va_up f k x))) F s H1 locs1 → W p l e R s m args below meth c H1 locs1 cells slots Q (F0 m (pc + 1) ls rest)) : W p l e R s m args below meth c H locs cells slots Q (F0 m pc ls (.int x :: .int i :: .ref a :: rest)) := by
  obtain ⟨⟨ws, hP, hD, hM, hF, hdj⟩, hS⟩ := w
  obtain ⟨q0, he⟩ := List.getElem?_of_mem (hM a _ ha)
  subst hi
  refine va_iast C.1 C.2.1 C.2.2.2.2.2.2.2.1.1 hP hD hS q0 0 he rfl (vp_in_nI hk hn) hdg (fun H1 locs1 hP1 hD1 hS1 => ?_)
  rw [nI_clamp (Nat.lt_trans hk hn)] at hP1 hD1
  exact kk H1 locs1 ⟨mw_set hP1 hD1 he hM hF hdj ha, hS1⟩
theorem m_last (C : mC p s m args meth c cc nL own Ts rt D y S0) (w : mS D S0 M F s H locs) {a n : Nat} {f : Nat → Int64} (ha : M a = some (eL y n f)) {i : Int32} {x : Int64} (k : Nat) (hi : i = nI k) (hk : k < n) (hn : n < 2 ^ 31) (hdg : decode cc pc = .ok (.lastore, 1))
    (kk : ∀ (H1 : Heap) (locs1 : List Loc), mS D S0 (mu M a (eL y n (va_up f k x))) F s H1 locs1 → W p l e R s m args below meth c H1 locs1 cells slots Q (F0 m (pc + 1) ls rest)) : W p l e R s m args below meth c H locs cells slots Q (F0 m pc ls (.long x :: .int i :: .ref a :: rest)) := by
  obtain ⟨⟨ws, hP, hD, hM, hF, hdj⟩, hS⟩ := w
  obtain ⟨q0, he⟩ := List.getElem?_of_mem (hM a _ ha)
  subst hi
  refine va_last C.1 C.2.1 C.2.2.2.2.2.2.2.1.1 hP hD hS q0 1 he rfl (vp_in_nI hk hn) hdg (fun H1 locs1 hP1 hD1 hS1 => ?_)
  rw [nI_clamp (Nat.lt_trans hk hn)] at hP1 hD1
  exact kk H1 locs1 ⟨mw_set hP1 hD1 he hM hF hdj ha, hS1⟩
theorem m_hast (C : mC p s m args meth c cc nL own Ts rt D y S0) (w : mS D S0 M F s H locs) {a n v : Nat} {f : Nat → Option Nat} {vs : List Value} (ha : M a = some (eH y n f)) (hv : M v = some (eO 0 vs)) {i : Int32} (k : Nat) (hi : i = nI k) (hk : k < n) (hn : n < 2 ^ 31) (hdg : decode cc pc = .ok (.aastore, 1))
    (kk : ∀ (H1 : Heap) (locs1 : List Loc), mS D S0 (mu M a (eH y n (va_up f k (some v)))) F s H1 locs1 → W p l e R s m args below meth c H1 locs1 cells slots Q (F0 m (pc + 1) ls rest)) : W p l e R s m args below meth c H locs cells slots Q (F0 m pc ls (.ref v :: .int i :: .ref a :: rest)) := by
  obtain ⟨⟨ws, hP, hD, hM, hF, hdj⟩, hS⟩ := w
  obtain ⟨q0, he⟩ := List.getElem?_of_mem (hM a _ ha)
  obtain ⟨q1, hv1⟩ := List.getElem?_of_mem (hM v _ hv)
  subst hi
  refine va_astq (r := (RX0, TX0, 5)) C.1 C.2.1 C.2.2.2.2.2.2.2.1.1 hP hD hS q0 2 q1 0 he rfl hv1 rfl (vp_in_nI hk hn) hdg (fun H1 locs1 hP1 hD1 hS1 => ?_)
  rw [nI_clamp (Nat.lt_trans hk hn)] at hP1 hD1
  exact kk H1 locs1 ⟨mw_set hP1 hD1 he hM hF hdj ha, hS1⟩
/-- a Thing or null goes into an array of Things -/
theorem m_tast (C : mC p s m args meth c cc nL own Ts rt D y S0) (w : mS D S0 M F s H locs) {a n : Nat} {v : Option Nat} {f : Nat → Option Nat} (ha : M a = some (eT y n f)) (hv : ∀ z, v = some z → (∃ vs, M z = some (eO 0 vs)) ∨ ∃ vs, M z = some (eO 1 vs)) {i : Int32} (k : Nat) (hi : i = nI k) (hk : k < n) (hn : n < 2 ^ 31) (hdg : decode cc pc = .ok (.aastore, 1))
    (kk : ∀ (H1 : Heap) (locs1 : List Loc), mS D S0 (mu M a (eT y n (va_up f k v))) F s H1 locs1 → W p l e R s m args below meth c H1 locs1 cells slots Q (F0 m (pc + 1) ls rest)) : W p l e R s m args below meth c H locs cells slots Q (F0 m pc ls (va_rf v :: .int i :: .ref a :: rest)) := by
  obtain ⟨⟨ws, hP, hD, hM, hF, hdj⟩, hS⟩ := w
  obtain ⟨q0, he⟩ := List.getElem?_of_mem (hM a _ ha)
  have hm := C.2.2.2.2.2.2.2.1.2.1
  subst hi
  cases v with
  | none =>
    refine va_astqN C.1 C.2.1 C.2.2.2.2.2.2.2.1.1 hP hD hS q0 3 he rfl (vp_in_nI hk hn) hdg (fun H1 locs1 hP1 hD1 hS1 => ?_)
    rw [nI_clamp (Nat.lt_trans hk hn)] at hP1 hD1
    exact kk H1 locs1 ⟨mw_set hP1 hD1 he hM hF hdj ha, hS1⟩
  | some z =>
    rcases hv z rfl with ⟨vs, hz⟩ | ⟨vs, hz⟩
    · obtain ⟨q1, hv1⟩ := List.getElem?_of_mem (hM z _ hz)
      refine va_astqO (r := (RX0, TX0, 5)) C.1 C.2.1 C.2.2.2.2.2.2.2.1.1 hP hD hS q0 3 q1 0 he rfl (hm (.castable "BeadBench$Holding" "BeadBench$Thing") (by decide +kernel)) hv1 rfl (vp_in_nI hk hn) hdg (fun H1 locs1 hP1 hD1 hS1 => ?_)
      rw [nI_clamp (Nat.lt_trans hk hn)] at hP1 hD1
      exact kk H1 locs1 ⟨mw_set hP1 hD1 he hM hF hdj ha, hS1⟩
    · obtain ⟨q1, hv1⟩ := List.getElem?_of_mem (hM z _ hz)
      refine va_astqO (r := (RX1, TX1, 3)) C.1 C.2.1 C.2.2.2.2.2.2.2.1.1 hP hD hS q0 3 q1 1 he rfl (hm (.castable "BeadBench$Piece" "BeadBench$Thing") (by decide +kernel)) hv1 rfl (vp_in_nI hk hn) hdg (fun H1 locs1 hP1 hD1 hS1 => ?_)
      rw [nI_clamp (Nat.lt_trans hk hn)] at hP1 hD1
      exact kk H1 locs1 ⟨mw_set hP1 hD1 he hM hF hdj ha, hS1⟩
theorem m_alenI (C : mC p s m args meth c cc nL own Ts rt D y S0) (w : mS D S0 M F s H locs) {a n : Nat} {f : Nat → Int32} (ha : M a = some (eI y n f)) (hdg : decode cc pc = .ok (.arraylength, 1))
    (kk : W p l e R s m args below meth c H locs cells slots Q (F0 m (pc + 1) ls (.int (nI n) :: rest))) : W p l e R s m args below meth c H locs cells slots Q (F0 m pc ls (.ref a :: rest)) := by
  obtain ⟨ws, q0, hP, he⟩ := m_at w ha
  exact va_alen C.1 C.2.1 C.2.2.2.2.2.2.2.1.1 hP q0 0 he rfl rfl hdg kk
theorem m_new (C : mC p s m args meth c cc nL own Ts rt D y S0) (w : mS D S0 M F s H locs) (ci : Nat) {Cn : String} {T : u_T} {N index : Nat} (fs : List Value) (hc : vwCl[ci]? = some (Cn, T, N)) (hin : ∀ w ∈ u_ws Cn T N, w ∈ Ts) (ty : Nat → FieldType) (hty : ∀ k, k < N → parseFieldDescriptor (T k).2.2.1 = some (ty k)) (hcl : Cond.classLink own index Cn ∈ Ts) (hinst : Cond.instantiable Cn N ∈ Ts) (hini : Cond.initialized Cn ∈ Ts) (hfs : ∀ j, j < N → defaultValue (ty j) = vp_V fs j) (hcells : cells + 1 ≤ R.cells) (hslots : slots + N ≤ R.slots) (hdg : decode cc pc = .ok (.new index, 3))
    (kk : ∀ (q : Nat) (H1 : Heap), M q = none → F q = none → mS D S0 (mu M q (eO ci fs)) F s H1 locs → W p l e R s m args below meth c H1 locs (cells + 1) (slots + N) Q (F0 m (pc + 3) ls (.ref q :: rest))) : W p l e R s m args below meth c H locs cells slots Q (F0 m pc ls rest) := by
  obtain ⟨⟨ws, hP, hD, hM, hF, hdj⟩, hS⟩ := w
  refine va_new C.1 C.2.1 C.2.2.2.2.1 hin ty hty C.2.2.2.1 (C.2.2.2.2.1 _ hcl) (C.2.2.2.2.1 _ hinst) (C.2.2.2.2.1 _ hini) C.2.2.2.2.2.2.2.1.1 hP hD hS (fun q h => Nat.le_trans C.2.2.2.2.2.2.2.2 h) hc hfs hcells hslots hdg (fun q H1 hP1 hD1 hS1 => ?_)
  obtain ⟨h1, h2, h3⟩ := mw_push hP1 hD1 hM hF hdj
  exact kk q H1 h2 h3 ⟨h1, hS1⟩
theorem m_newI (C : mC p s m args meth c cc nL own Ts rt D y S0) (w : mS D S0 M F s H locs) (harr : Cond.arrayClass .int ∈ Ts) {n : Int32} (N : Nat) (hn : n = nI N) (hN : N < 2 ^ 27) (hcells : cells + 1 ≤ R.cells) (hslots : slots + N ≤ R.slots) (hdg : decode cc pc = .ok (.newarray .int, 2))
    (kk : ∀ (q : Nat) (H1 : Heap), M q = none → F q = none → mS D S0 (mu M q (eI y N (fun _ => 0))) F s H1 locs → W p l e R s m args below meth c H1 locs (cells + 1) (slots + N) Q (F0 m (pc + 2) ls (.ref q :: rest))) : W p l e R s m args below meth c H locs cells slots Q (F0 m pc ls (.int n :: rest)) := by
  obtain ⟨⟨ws, hP, hD, hM, hF, hdj⟩, hS⟩ := w
  subst hn
  have hK := C.2.2.2.2.2.2.2.1.1
  refine va_newa (atype := .int) (ty := .int) (N' := N) (a0 := (N, .inl (fun _ => 0))) C.1 C.2.1 (C.2.2.2.2.1 _ harr) rfl hK hP hD hS (fun q h => Nat.le_trans C.2.2.2.2.2.2.2.2 h) (fun cA => rfl) (nI_pos (by omega)) (nI_clamp (by omega)) (by show N * 4 ≤ _; omega) hcells hslots hdg (fun q cA H1 hK1 hP1 hD1 hS1 => ?_)
  have e1 : cA = y.1 := Option.some.inj ((hK1.2 4 (cA, .int) rfl).2.symm.trans (hK.2 0 (y.1, .int) rfl).2)
  subst e1
  obtain ⟨h1, h2, h3⟩ := mw_push hP1 hD1 hM hF hdj
  exact kk q H1 h2 h3 ⟨h1, hS1⟩
theorem m_newL (C : mC p s m args meth c cc nL own Ts rt D y S0) (w : mS D S0 M F s H locs) (harr : Cond.arrayClass .long ∈ Ts) {n : Int32} (N : Nat) (hn : n = nI N) (hN : N < 2 ^ 26) (hcells : cells + 1 ≤ R.cells) (hslots : slots + N ≤ R.slots) (hdg : decode cc pc = .ok (.newarray .long, 2))
    (kk : ∀ (q : Nat) (H1 : Heap), M q = none → F q = none → mS D S0 (mu M q (eL y N (fun _ => 0))) F s H1 locs → W p l e R s m args below meth c H1 locs (cells + 1) (slots + N) Q (F0 m (pc + 2) ls (.ref q :: rest))) : W p l e R s m args below meth c H locs cells slots Q (F0 m pc ls (.int n :: rest)) := by
  obtain ⟨⟨ws, hP, hD, hM, hF, hdj⟩, hS⟩ := w
  subst hn
  have hK := C.2.2.2.2.2.2.2.1.1
  refine va_newa (atype := .long) (ty := .long) (N' := N) (a0 := (N, .inr (.inl (fun _ => 0)))) C.1 C.2.1 (C.2.2.2.2.1 _ harr) rfl hK hP hD hS (fun q h => Nat.le_trans C.2.2.2.2.2.2.2.2 h) (fun cA => rfl) (nI_pos (by omega)) (nI_clamp (by omega)) (by show N * 8 ≤ _; omega) hcells hslots hdg (fun q cA H1 hK1 hP1 hD1 hS1 => ?_)
  have e1 : cA = y.2.1 := Option.some.inj ((hK1.2 4 (cA, .long) rfl).2.symm.trans (hK.2 1 (y.2.1, .long) rfl).2)
  subst e1
  obtain ⟨h1, h2, h3⟩ := mw_push hP1 hD1 hM hF hdj
  exact kk q H1 h2 h3 ⟨h1, hS1⟩
theorem m_newH (C : mC p s m args meth c cc nL own Ts rt D y S0) (w : mS D S0 M F s H locs) {index : Nat} (hcl : Cond.classLink own index RX0 ∈ Ts) {n : Int32} (N : Nat) (hn : n = nI N) (hN : N < 2 ^ 27) (hcells : cells + 1 ≤ R.cells) (hslots : slots + N ≤ R.slots) (hdg : decode cc pc = .ok (.anewarray index, 3))
    (kk : ∀ (q : Nat) (H1 : Heap), M q = none → F q = none → mS D S0 (mu M q (eH y N (fun _ => none))) F s H1 locs → W p l e R s m args below meth c H1 locs (cells + 1) (slots + N) Q (F0 m (pc + 3) ls (.ref q :: rest))) : W p l e R s m args below meth c H locs cells slots Q (F0 m pc ls (.int n :: rest)) := by
  obtain ⟨⟨ws, hP, hD, hM, hF, hdj⟩, hS⟩ := w
  subst hn
  have hK := C.2.2.2.2.2.2.2.1.1
  refine va_newq (N' := N) C.1 C.2.1 C.2.2.2.1 (C.2.2.2.2.1 _ hcl) C.2.2.2.2.2.2.2.1.2.2.2.1 hK hP hD hS (fun q h => Nat.le_trans C.2.2.2.2.2.2.2.2 h) (nI_pos (by omega)) (nI_clamp (by omega)) (by omega) hcells hslots hdg (fun q cA H1 hK1 hP1 hD1 hS1 => ?_)
  obtain ⟨_, _, _, _, _, k4⟩ := (hK1.2 4 (cA, .object RX0) rfl).2
  obtain ⟨_, _, _, _, _, k5⟩ := (hK.2 2 (y.2.2.1, .object RX0) rfl).2
  have e1 : cA = y.2.2.1 := Option.some.inj (k4.symm.trans k5)
  subst e1
  obtain ⟨h1, h2, h3⟩ := mw_push hP1 hD1 hM hF hdj
  exact kk q H1 h2 h3 ⟨h1, hS1⟩
theorem m_newT (C : mC p s m args meth c cc nL own Ts rt D y S0) (w : mS D S0 M F s H locs) {index : Nat} (hcl : Cond.classLink own index RX2 ∈ Ts) {n : Int32} (N : Nat) (hn : n = nI N) (hN : N < 2 ^ 27) (hcells : cells + 1 ≤ R.cells) (hslots : slots + N ≤ R.slots) (hdg : decode cc pc = .ok (.anewarray index, 3))
    (kk : ∀ (q : Nat) (H1 : Heap), M q = none → F q = none → mS D S0 (mu M q (eT y N (fun _ => none))) F s H1 locs → W p l e R s m args below meth c H1 locs (cells + 1) (slots + N) Q (F0 m (pc + 3) ls (.ref q :: rest))) : W p l e R s m args below meth c H locs cells slots Q (F0 m pc ls (.int n :: rest)) := by
  obtain ⟨⟨ws, hP, hD, hM, hF, hdj⟩, hS⟩ := w
  subst hn
  have hK := C.2.2.2.2.2.2.2.1.1
  refine va_newq (N' := N) C.1 C.2.1 C.2.2.2.1 (C.2.2.2.2.1 _ hcl) C.2.2.2.2.2.2.2.1.2.2.2.2 hK hP hD hS (fun q h => Nat.le_trans C.2.2.2.2.2.2.2.2 h) (nI_pos (by omega)) (nI_clamp (by omega)) (by omega) hcells hslots hdg (fun q cA H1 hK1 hP1 hD1 hS1 => ?_)
  obtain ⟨_, _, _, _, _, k4⟩ := (hK1.2 4 (cA, .object RX2) rfl).2
  obtain ⟨_, _, _, _, _, k5⟩ := (hK.2 3 (y.2.2.2, .object RX2) rfl).2
  have e1 : cA = y.2.2.2 := Option.some.inj (k4.symm.trans k5)
  subst e1
  obtain ⟨h1, h2, h3⟩ := mw_push hP1 hD1 hM hF hdj
  exact kk q H1 h2 h3 ⟨h1, hS1⟩
/-! ends -/
theorem m_mq (w : mS D S0 M F s H locs) {v : Option Value} (hp : post v M) (t : State) (ht : t.heap = H) : mQ D S0 F post args s (.returned v) t := ⟨⟨v, M, rfl, hp, by rw [ht]; exact w.1⟩, w.2.F ht⟩
theorem m_iret (C : mC p s m args meth c cc nL own Ts (some .int) D y S0) (w : mS D S0 M F s H locs) {v : Int32} (hdg : decode cc pc = .ok (.ireturn, 1)) (hc : cells ≤ mc) (hs : slots ≤ ms) (hp : post (some (.int v)) M) : W p l e R s m args below meth c H locs cells slots (MQ below (mQ D S0 F post) args s mc ms (fun q => S0 ≤ q)) (F0 m pc ls [.int v]) :=
  W.widen hc hs (W.iret C.1 C.2.1 C.2.2.2.2.2.1 (fun t ht _ => m_mq w hp t ht) w.2.2.2 hdg C.2.2.2.2.2.2.1)
theorem m_zret (C : mC p s m args meth c cc nL own Ts (some .boolean) D y S0) (w : mS D S0 M F s H locs) {v : Int32} (hdg : decode cc pc = .ok (.ireturn, 1)) (hc : cells ≤ mc) (hs : slots ≤ ms) (hz : v = 0 ∨ v = 1) (hp : post (some (.int v)) M) : W p l e R s m args below meth c H locs cells slots (MQ below (mQ D S0 F post) args s mc ms (fun q => S0 ≤ q)) (F0 m pc ls [.int v]) :=
  W.widen hc hs (W.zret C.1 C.2.1 C.2.2.2.2.2.1 (by rcases hz with rfl | rfl <;> rfl) (fun t ht _ => m_mq w hp t ht) w.2.2.2 hdg C.2.2.2.2.2.2.1)
theorem m_lret (C : mC p s m args meth c cc nL own Ts (some .long) D y S0) (w : mS D S0 M F s H locs) {v : Int64} (hdg : decode cc pc = .ok (.lreturn, 1)) (hc : cells ≤ mc) (hs : slots ≤ ms) (hp : post (some (.long v)) M) : W p l e R s m args below meth c H locs cells slots (MQ below (mQ D S0 F post) args s mc ms (fun q => S0 ≤ q)) (F0 m pc ls [.long v]) :=
  W.widen hc hs (W.lret C.1 C.2.1 C.2.2.2.2.2.1 (fun t ht _ => m_mq w hp t ht) w.2.2.2 hdg C.2.2.2.2.2.2.1)
theorem m_vret (C : mC p s m args meth c cc nL own Ts none D y S0) (w : mS D S0 M F s H locs) (hdg : decode cc pc = .ok (.return_, 1)) (hc : cells ≤ mc) (hs : slots ≤ ms) (hp : post none M) : W p l e R s m args below meth c H locs cells slots (MQ below (mQ D S0 F post) args s mc ms (fun q => S0 ≤ q)) (F0 m pc ls []) :=
  W.widen hc hs (W.vret C.1 C.2.1 C.2.2.2.2.2.1 (fun t ht _ => m_mq w hp t ht) w.2.2.2 hdg C.2.2.2.2.2.2.1)
theorem m_aret {cn : String} (C : mC p s m args meth c cc nL own Ts (some (.object cn)) D y S0) (w : mS D S0 M F s H locs) {v : Option Nat} (hdg : decode cc pc = .ok (.areturn, 1)) (hc : cells ≤ mc) (hs : slots ≤ ms) (hp : post (some (va_rf v)) M) : W p l e R s m args below meth c H locs cells slots (MQ below (mQ D S0 F post) args s mc ms (fun q => S0 ≤ q)) (F0 m pc ls [va_rf v]) :=
  W.widen hc hs (W.aret C.1 C.2.1 C.2.2.2.2.2.1 (Or.inl ⟨_, rfl⟩) (by cases v with
    | none => exact Or.inl rfl
    | some a => exact Or.inr ⟨a, rfl⟩) (fun t ht _ => m_mq w hp t ht) w.2.2.2 hdg C.2.2.2.2.2.2.1)
/-! calls -/
theorem m_call {av : Array Value} (hr : va_Run p l e R s m args below meth c H locs cells slots mc ms (F0 m pc ls st0) rest (mQ D S0 F post av) (fun q => S0 ≤ q)) (w : mS D S0 M F s H locs)
    (kk : ∀ (v : Option Value) (M' : mp) (H1 : Heap) (locs1 : List Loc), post v M' → mS D S0 M' F s H1 locs1 → W p l e R s m args below meth c H1 locs1 (cells + mc) (slots + ms) Q (F0 m (pc + 3) ls (v.toList ++ rest))) : W p l e R s m args below meth c H locs cells slots Q (F0 m pc ls st0) := by
  intro T hT X
  obtain ⟨v, st₀, t, T', L, h0, X', hL, e1, e2, ⟨⟨v', M', hv, hp, hb⟩, hz, hk⟩, st⟩ := hr T hT X
  cases hv
  rw [h0] at hz hk
  obtain ⟨t2, a1, b1⟩ := kk v M' T'.heap (locs ++ L) hp ⟨by rw [e1]; exact hb, ⟨Nat.le_trans w.2.1 (by rw [e1]; exact hz), fun q h1 h2 => by rw [e1, hk q (Nat.lt_of_lt_of_le h1 w.2.1) h2]; exact w.2.2.1 q h1 h2, fun q hq => by
      rcases List.mem_append.mp hq with h | h
      · exact w.2.2.2 q h
      · exact hL q h⟩⟩ T' rfl X'
  exact ⟨t2, st t2 a1, b1⟩
theorem m_blind {av : List Value} : FrameBlind (va_Pc av (fun U => mw D S0 M F U.heap ∧ mT D y U ∧ S0 ≤ U.heap.size)) := fun _ U _ _ h => ⟨h.1, h.2.1, mT.same (s := U) rfl h.2.2.1, h.2.2.2⟩
theorem m_pre {av : List Value} (C : mC p s m args meth c cc nL own Ts rt D y S0) (w : mS D S0 M F s H locs) : ∀ U : State, U.heap = H → s.WarmedH U.vm → va_Pc av (fun U => mw D S0 M F U.heap ∧ mT D y U ∧ S0 ≤ U.heap.size) av.toArray U :=
  fun U hU hW => ⟨rfl, by rw [hU]; exact w.1, C.2.2.2.2.2.2.2.1.warm hW, by rw [hU]; exact Nat.le_trans C.2.2.2.2.2.2.2.2 w.2.1⟩
theorem m_recv (C : mC p s m args meth c cc nL own Ts rt D y S0) (w : mS D S0 M F s H locs) {b ci N : Nat} {fs : List Value} {Cn : String} {T : u_T} (hb : M b = some (eO ci fs)) (hc : vwCl[ci]? = some (Cn, T, N)) : ∃ cell : Cell, H[b]? = some cell ∧ cell.vm.isStatics = false ∧ s.vm.findClass Cn = some cell.cls := by
  obtain ⟨ws, q0, hP, he⟩ := m_at w hb
  exact va_recv (q := (Cn, T, N)) C.2.2.2.2.2.2.2.1.1 hP hc he
theorem m_callV (C : mC p s m args meth c cc nL own Ts rt D y S0) (w : mS D S0 M F s H locs) (hls : ls.size = nL) {yn : MethodName} {ws ws' : List Cond} {fr lo b index maxL : Nat} {bytes : ByteArray} {ret : Option FieldType} {As : List Value} {Cn : String} {ci N : Nat} {fs : List Value} {T : u_T} (hct : ct l yn ws fr lo mc ms D y S0 M F (.ref b :: As) post) (hG : GoodIn Ts (wsV own index Cn yn ws)) (hw : ws = Cond.code yn bytes maxL ret :: ws') (hrec : M b = some (eO ci fs)) (hci : vwCl[ci]? = some (Cn, T, N))
    (hd : yn.cls = Cn ∧ yn.cls ≠ "java/lang/invoke/MethodHandle" ∧ yn.cls ≠ "java/lang/invoke/VarHandle" ∧ (parseMethodDescriptor yn.desc).map (fun d => d.parameters.length) = some As.length) (hR : fr + 1 ≤ R.frames ∧ 8 + (maxL + 11) + lo ≤ R.locals) (hst : st0 = As.reverse ++ .ref b :: rest) (hrm : (rest.map fun v => v.category).sum ≤ 8) (hdg : decode cc pc = .ok (.invokevirtual index, 3)) (hf : cells + mc ≤ R.cells ∧ slots + ms ≤ R.slots)
    (kk : ∀ (v : Option Value) (M' : mp) (H1 : Heap) (locs1 : List Loc), post v M' → mS D S0 M' F s H1 locs1 → W p l e R s m args below meth c H1 locs1 (cells + mc) (slots + ms) Q (F0 m (pc + 3) ls (v.toList ++ rest))) : W p l e R s m args below meth c H locs cells slots Q (F0 m pc ls st0) :=
  m_call (va_runV (As := As) (rest := rest) (nL := nL) ⟨C.1, C.2.1, C.2.2.1, C.2.2.2.1, C.2.2.2.2.1⟩ hct (cwV As.length C.2.2.2.2.1 hG hw rfl rfl hd hR) ⟨m_blind, m_recv C w hrec hci, m_pre C w⟩ rfl rfl hls hst (lv_room hrm) hdg hf) w kk
theorem m_callU (C : mC p s m args meth c cc nL own Ts rt D y S0) (w : mS D S0 M F s H locs) (hls : ls.size = nL) {x yn : MethodName} {ws : List Cond} {fr lo b index maxL : Nat} {bytes : ByteArray} {ret : Option FieldType} {As : List Value} {Cn owner : String} {ci N : Nat} {fs : List Value} {T : u_T} (hct : ct l yn ws fr lo mc ms D y S0 M F (.ref b :: As) post) (hCU : va_CU R s args own Cn owner index x yn bytes maxL ret ws { frames := fr, cells := mc, slots := ms, locals := lo } mc ms As.length) (hrec : M b = some (eO ci fs)) (hci : vwCl[ci]? = some (Cn, T, N))
    (hst : st0 = As.reverse ++ .ref b :: rest) (hrm : (rest.map fun v => v.category).sum ≤ 8) (hdg : decode cc pc = .ok (.invokevirtual index, 3)) (hf : cells + mc ≤ R.cells ∧ slots + ms ≤ R.slots)
    (kk : ∀ (v : Option Value) (M' : mp) (H1 : Heap) (locs1 : List Loc), post v M' → mS D S0 M' F s H1 locs1 → W p l e R s m args below meth c H1 locs1 (cells + mc) (slots + ms) Q (F0 m (pc + 3) ls (v.toList ++ rest))) : W p l e R s m args below meth c H locs cells slots Q (F0 m pc ls st0) :=
  m_call (va_runU (As := As) (rest := rest) (nL := nL) ⟨C.1, C.2.1, C.2.2.1, C.2.2.2.1, C.2.2.2.2.1⟩ hct hCU ⟨m_blind, m_recv C w hrec hci, m_pre C w⟩ rfl rfl hls hst (lv_room hrm) hdg hf) w kk
theorem m_callS (C : mC p s m args meth c cc nL own Ts rt D y S0) (w : mS D S0 M F s H locs) (hls : ls.size = nL) {yn : MethodName} {ws ws' : List Cond} {fr lo index maxL : Nat} {bytes : ByteArray} {ret : Option FieldType} {As : List Value} (hct : ct l yn ws fr lo mc ms D y S0 M F As post) (hG : GoodIn Ts ws) (hw : ws = Cond.code yn bytes maxL ret :: ws') (hini : Cond.initialized yn.cls ∈ Ts) (hlk : Cond.methodLink own index yn ∈ Ts) (hstt : Cond.static yn ∈ Ts)
    (hd : yn.cls ≠ "java/lang/invoke/MethodHandle" ∧ yn.cls ≠ "java/lang/invoke/VarHandle" ∧ (parseMethodDescriptor yn.desc).map (fun d => d.parameters.length) = some As.length) (hR : fr + 1 ≤ R.frames ∧ 8 + (maxL + 11) + lo ≤ R.locals) (hst : st0 = As.reverse ++ rest) (hrm : (rest.map fun v => v.category).sum ≤ 8) (hdg : decode cc pc = .ok (.invokestatic index, 3)) (hf : cells + mc ≤ R.cells ∧ slots + ms ≤ R.slots)
    (kk : ∀ (v : Option Value) (M' : mp) (H1 : Heap) (locs1 : List Loc), post v M' → mS D S0 M' F s H1 locs1 → W p l e R s m args below meth c H1 locs1 (cells + mc) (slots + ms) Q (F0 m (pc + 3) ls (v.toList ++ rest))) : W p l e R s m args below meth c H locs cells slots Q (F0 m pc ls st0) :=
  m_call (va_runS (As := As) (rest := rest) (nL := nL) ⟨C.1, C.2.1, C.2.2.1, C.2.2.2.1, C.2.2.2.2.1⟩ hct ⟨callB_of As.length C.2.2.2.2.1 hG hw rfl rfl (C.2.2.2.2.1 _ hini) (C.2.2.2.2.1 _ hlk) hd hR, C.2.2.2.2.1 _ hstt⟩ ⟨m_blind, m_pre C w⟩ rfl rfl hls hst (lv_room hrm) hdg hf) w kk
theorem m_callI (C : mC p s m args meth c cc nL own Ts rt D y S0) (w : mS D S0 M F s H locs) (hls : ls.size = nL) {yn : MethodName} {ws ws' : List Cond} {fr lo b index maxL : Nat} {bytes : ByteArray} {As : List Value} (hct : ct l yn ws fr lo mc ms D y S0 M F (.ref b :: As) post) (hG : GoodIn Ts ws) (hw : ws = Cond.code yn bytes maxL none :: ws') (hini : Cond.initialized yn.cls ∈ Ts) (hlk : Cond.methodLink own index yn ∈ Ts) (hins : Cond.instanceMethod yn ∈ Ts) (hy1 : yn.name = "<init>")
    (hd : yn.cls ≠ "java/lang/invoke/MethodHandle" ∧ yn.cls ≠ "java/lang/invoke/VarHandle" ∧ (parseMethodDescriptor yn.desc).map (fun d => d.parameters.length) = some As.length) (hR : fr + 1 ≤ R.frames ∧ 8 + (maxL + 11) + lo ≤ R.locals) (hst : st0 = As.reverse ++ .ref b :: rest) (hrm : (rest.map fun v => v.category).sum ≤ 8) (hdg : decode cc pc = .ok (.invokespecial index, 3)) (hf : cells + mc ≤ R.cells ∧ slots + ms ≤ R.slots)
    (kk : ∀ (v : Option Value) (M' : mp) (H1 : Heap) (locs1 : List Loc), post v M' → mS D S0 M' F s H1 locs1 → W p l e R s m args below meth c H1 locs1 (cells + mc) (slots + ms) Q (F0 m (pc + 3) ls (v.toList ++ rest))) : W p l e R s m args below meth c H locs cells slots Q (F0 m pc ls st0) :=
  m_call (va_runI (As := As) (rest := rest) (nL := nL) ⟨C.1, C.2.1, C.2.2.1, C.2.2.2.1, C.2.2.2.2.1⟩ hct (cwI As.length C.2.2.2.2.1 hG hw rfl rfl (C.2.2.2.2.1 _ hini) (C.2.2.2.2.1 _ hlk) (C.2.2.2.2.1 _ hins) hy1 hd hR) ⟨m_blind, m_pre C w⟩ rfl rfl hls hst (lv_room hrm) hdg hf) w kk
theorem m_callIN (C : mC p s m args meth c cc nL own Ts rt D y S0) (w : mS D S0 M F s H locs) (hls : ls.size = nL) {yn : MethodName} {ws ws' : List Cond} {fr lo b index maxL : Nat} {bytes : ByteArray} {host : String} {As : List Value} (hct : ct l yn ws fr lo mc ms D y S0 M F (.ref b :: As) post) (hG : GoodIn Ts ws) (hw : ws = Cond.code yn bytes maxL none :: ws') (hini : Cond.initialized yn.cls ∈ Ts) (hlk : Cond.methodLinkNest own index yn host ∈ mnw) (hins : Cond.instanceMethod yn ∈ Ts) (hy1 : yn.name = "<init>")
    (hd : yn.cls ≠ "java/lang/invoke/MethodHandle" ∧ yn.cls ≠ "java/lang/invoke/VarHandle" ∧ (parseMethodDescriptor yn.desc).map (fun d => d.parameters.length) = some As.length) (hR : fr + 1 ≤ R.frames ∧ 8 + (maxL + 11) + lo ≤ R.locals) (hst : st0 = As.reverse ++ .ref b :: rest) (hrm : (rest.map fun v => v.category).sum ≤ 8) (hdg : decode cc pc = .ok (.invokespecial index, 3)) (hf : cells + mc ≤ R.cells ∧ slots + ms ≤ R.slots)
    (kk : ∀ (v : Option Value) (M' : mp) (H1 : Heap) (locs1 : List Loc), post v M' → mS D S0 M' F s H1 locs1 → W p l e R s m args below meth c H1 locs1 (cells + mc) (slots + ms) Q (F0 m (pc + 3) ls (v.toList ++ rest))) : W p l e R s m args below meth c H locs cells slots Q (F0 m pc ls st0) :=
  m_call (va_runIN (As := As) (rest := rest) (nL := nL) ⟨C.1, C.2.1, C.2.2.1, C.2.2.2.1, C.2.2.2.2.1⟩ hct ⟨va_cnB As.length C.2.2.2.2.1 hG hw rfl rfl (C.2.2.2.2.2.2.2.1.2.1 _ hlk) (C.2.2.2.2.1 _ hini) hd hR, hy1, C.2.2.2.2.1 _ hins⟩ ⟨m_blind, m_pre C w⟩ rfl rfl hls hst (lv_room hrm) hdg hf) w kk
end MW
