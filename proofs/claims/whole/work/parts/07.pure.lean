/-! small words: truth as an int, rows that name a top of the stack, what a place of the map is not -/
def bI (b : Bool) : Int32 := if b then 1 else 0
theorem bI_t {b : Bool} (h : ¬ bI b = 0) : b = true := by
  cases b
  · exact absurd rfl h
  · rfl
theorem bI_f {b : Bool} (h : bI b = 0) : b = false := by
  cases b
  · rfl
  · exact absurd h (by decide)
theorem bI_or (b : Bool) : bI b = 0 ∨ bI b = 1 := by
  cases b
  · exact Or.inl rfl
  · exact Or.inr rfl
theorem ne_LT {y : mY} {n k : Nat} {f : Nat → Int64} {g : Nat → Option Nat} : eL y n f ≠ eT y k g := by simp
theorem ne_LH {y : mY} {n k : Nat} {f : Nat → Int64} {g : Nat → Option Nat} : eL y n f ≠ eH y k g := by simp
theorem ne_LI {y : mY} {n k : Nat} {f : Nat → Int64} {g : Nat → Int32} : eL y n f ≠ eI y k g := by simp
theorem ne_IT {y : mY} {n k : Nat} {f : Nat → Int32} {g : Nat → Option Nat} : eI y n f ≠ eT y k g := by simp
theorem ne_IH {y : mY} {n k : Nat} {f : Nat → Int32} {g : Nat → Option Nat} : eI y n f ≠ eH y k g := by simp
theorem ne_IL {y : mY} {n k : Nat} {f : Nat → Int32} {g : Nat → Int64} : eI y n f ≠ eL y k g := by simp
theorem ne_TL {y : mY} {n k : Nat} {f : Nat → Int64} {g : Nat → Option Nat} : eT y k g ≠ eL y n f := by simp
theorem ne_HL {y : mY} {n k : Nat} {f : Nat → Int64} {g : Nat → Option Nat} : eH y k g ≠ eL y n f := by simp
theorem ne_TI {y : mY} {n k : Nat} {f : Nat → Int32} {g : Nat → Option Nat} : eT y k g ≠ eI y n f := by simp
theorem ne_HI {y : mY} {n k : Nat} {f : Nat → Int32} {g : Nat → Option Nat} : eH y k g ≠ eI y n f := by simp
theorem ne_OA {ci : Nat} {fs : List Value} {x : ClassId × vp_A} : eO ci fs ≠ (.inl x : va_E) := by simp
theorem ne_AO {ci : Nat} {fs : List Value} {x : ClassId × vp_A} : (.inl x : va_E) ≠ eO ci fs := by simp
section MQ7
variable {p : Program} {l : Launch} {e : Env} {R : Room} {s : State} {m : MethodId} {args : Array Value} {below : List Frame} {meth : Method} {c : Code} {H : Heap} {locs : List Loc} {cells slots : Nat} {Q : State → Prop}
variable {cc : ByteArray} {pc : Nat} {ls : Array Slot} {rest : List Value}
theorem m_topi {x y : Int32} (h : x = y) (k : W p l e R s m args below meth c H locs cells slots Q (F0 m pc ls (.int y :: rest))) : W p l e R s m args below meth c H locs cells slots Q (F0 m pc ls (.int x :: rest)) := by
  rw [h]
  exact k
theorem m_topl {x y : Int64} (h : x = y) (k : W p l e R s m args below meth c H locs cells slots Q (F0 m pc ls (.long y :: rest))) : W p l e R s m args below meth c H locs cells slots Q (F0 m pc ls (.long x :: rest)) := by
  rw [h]
  exact k
theorem m_topq {x y : Option Nat} (h : x = y) (k : W p l e R s m args below meth c H locs cells slots Q (F0 m pc ls (va_rf y :: rest))) : W p l e R s m args below meth c H locs cells slots Q (F0 m pc ls (va_rf x :: rest)) := by
  rw [h]
  exact k
theorem mq_aload_n (hexec : p.tables.exec = Jvm.exec) (hb : c.code = cc) {k : Fin 4} {i : Nat} {x : Option Nat} (hdg : decode cc pc = .ok (.aload_n k, 1)) (hi : (k : Nat) = i) (hl : ls[i]? = some (.val (va_rf x)))
    (kk : W p l e R s m args below meth c H locs cells slots Q (F0 m (pc + 1) ls (va_rf x :: rest))) : W p l e R s m args below meth c H locs cells slots Q (F0 m pc ls rest) := by
  cases x with
  | none => exact lv_aload_nN hexec hb hdg hi hl kk
  | some a => exact lv_aload_n hexec hb hdg hi hl kk
theorem mq_aload (hexec : p.tables.exec = Jvm.exec) (hb : c.code = cc) {i : Nat} {x : Option Nat} (hdg : decode cc pc = .ok (.aload i, 2)) (hl : ls[i]? = some (.val (va_rf x)))
    (kk : W p l e R s m args below meth c H locs cells slots Q (F0 m (pc + 2) ls (va_rf x :: rest))) : W p l e R s m args below meth c H locs cells slots Q (F0 m pc ls rest) := by
  cases x with
  | none => exact lv_aloadN hexec hb hdg hl kk
  | some a => exact lv_aload hexec hb hdg hl kk
theorem mq_astore_n (hexec : p.tables.exec = Jvm.exec) (hb : c.code = cc) {k : Fin 4} {i nL : Nat} {x : Option Nat} {lv lv' : List (Nat × Value)} (hdg : decode cc pc = .ok (.astore_n k, 1)) (hi : (k : Nat) = i) (h : lv_has ls nL lv) (hn : i < nL) (hl : (i, va_rf x) :: lv.filter (fun q => !(q.1 == i) && !(q.1 + 1 == i && q.2.category == 2)) = lv')
    (kk : ∀ ls : Array Slot, lv_has ls nL lv' → W p l e R s m args below meth c H locs cells slots Q (F0 m (pc + 1) ls rest)) : W p l e R s m args below meth c H locs cells slots Q (F0 m pc ls (va_rf x :: rest)) := by
  cases x with
  | none => exact lv_astore_nN hexec hb hdg hi h hn hl kk
  | some a => exact lv_astore_n hexec hb hdg hi h hn hl kk
theorem mq_astore (hexec : p.tables.exec = Jvm.exec) (hb : c.code = cc) {i nL : Nat} {x : Option Nat} {lv lv' : List (Nat × Value)} (hdg : decode cc pc = .ok (.astore i, 2)) (h : lv_has ls nL lv) (hn : i < nL) (hl : (i, va_rf x) :: lv.filter (fun q => !(q.1 == i) && !(q.1 + 1 == i && q.2.category == 2)) = lv')
    (kk : ∀ ls : Array Slot, lv_has ls nL lv' → W p l e R s m args below meth c H locs cells slots Q (F0 m (pc + 2) ls rest)) : W p l e R s m args below meth c H locs cells slots Q (F0 m pc ls (va_rf x :: rest)) := by
  cases x with
  | none => exact lv_astoreN hexec hb hdg h hn hl kk
  | some a => exact lv_astore hexec hb hdg h hn hl kk
end MQ7
/-! the words of the class -/
abbrev hF (k n : Nat) (t : Int32) (na ta : Nat) : List Value := [.int (nI k), .int (nI n), .int t, .ref na, .ref ta]
def fR (k : Nat) : Int32 := if k = 0 then -1 else if k = 1 then -2 else 0
def isN (k : Nat) : Bool := decide (2 ≤ k) && decide (k ≤ 9)
def inP (i : Int32) (n : Nat) : Bool := !decide (i < 0) && !decide (nI n ≤ i)
def hpl (a b : Int32) (n : Nat) : Bool := !decide (a < 0) && (!decide (b < 0) && !decide (lN n < a.toInt64 + b.toInt64))
def acc (k : Nat) (so : Option Nat) : Bool := match so with
  | none => true
  | some s => if k = 10 then !decide (s = 6) else if k = 11 then decide (s = 3) else if k = 12 then decide (s = 4) || decide (s = 5) else if k = 13 then decide (s = 6) else false
/-- what lies at a place: nothing, a Holding (sort 6), or a Piece of a sort -/
def thS (M : mp) (o so : Option Nat) : Prop := (o = none ∧ so = none) ∨ ∃ z s, o = some z ∧ so = some s ∧ ((s = 6 ∧ ∃ fs, M z = some (eO 0 fs)) ∨ ∃ a b, s < 6 ∧ M z = some (eO 1 [.int (nI s), a, b]))
theorem inP_t {i : Int32} {n : Nat} (hn : n < 2 ^ 31) (h : inP i n = true) : ∃ j, j < n ∧ i = nI j := by
  unfold inP at h
  simp only [Bool.and_eq_true, Bool.not_eq_true', decide_eq_false_iff_not] at h
  rcases pk_ix i hn with q | q | q
  · exact absurd q h.1
  · exact absurd q h.2
  · exact q
theorem inP_nI {j n : Nat} (hj : j < n) (hn : n < 2 ^ 31) : inP (nI j) n = true := by
  unfold inP
  simp [nI_pos (Nat.lt_trans hj hn), nI_ge hj hn]
