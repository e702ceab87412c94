/-- the texts of the exceptions; the patterns (with their numbers), their lengths and signs -/
def zkSc : List (String × Nat × String) := [(RX7, 249, "there is no such task"), (RX7, 251, "a number is out of range"), (RX7, 253, "this cannot be added now"), (RX7, 257, "the priority is taken"), (RX7, 62, "the code is not from 32 to 126"), (RX7, 73, "the buffer is full"), (RX7, 86, "the text is malformed"), (RX7, 91, "the command is refused"), (RX7, 95, "no text was malformed"), (RX7, 105, "there is no such property"), (RX7, 262, "there is no such resource"), (RX7, 275, "the task has no segments"), (RX7, 260, "there is no such time"), (RX7, 148, "the number of units is out of range"), (RX7, 153, "the clock would become too great"), (RX7, 163, "the unit has not been made"), (RX7, 181, "there is no unfinished job"), (RX7, 190, "there is no such result"), (RX7, 197, "no job is finished"), (RX7, 284, "there is no server"), (RX7, 224, "there is no such request"), (RX7, 229, "the request is not finished"), (RX7, 231, "no unit has been made"), (RX7, 244, "there is no snapshot")]
def zkPt : List (String × Nat × String × Nat) := [(RX3, 45, "task # # # #", 0), (RX3, 47, "server # # #", 1), (RX3, 49, "request # #", 2), (RX3, 51, "segment # # #", 3), (RX3, 53, "segment # none #", 4), (RX3, 55, "policy continue", 5), (RX3, 57, "policy abort", 6), (RX3, 59, "policy skip", 7), (RX3, 61, "", 8)]
def zkLn : List Nat := [12, 12, 11, 13, 16, 15, 12, 11, 0]
def zkBy : List (List Int32) := [[116, 97, 115, 107, 32, 35, 32, 35, 32, 35, 32, 35], [115, 101, 114, 118, 101, 114, 32, 35, 32, 35, 32, 35], [114, 101, 113, 117, 101, 115, 116, 32, 35, 32, 35], [115, 101, 103, 109, 101, 110, 116, 32, 35, 32, 35, 32, 35], [115, 101, 103, 109, 101, 110, 116, 32, 35, 32, 110, 111, 110, 101, 32, 35], [112, 111, 108, 105, 99, 121, 32, 99, 111, 110, 116, 105, 110, 117, 101], [112, 111, 108, 105, 99, 121, 32, 97, 98, 111, 114, 116], [112, 111, 108, 105, 99, 121, 32, 115, 107, 105, 112], []]
def zkEx : List String := ["java/lang/IndexOutOfBoundsException", "java/lang/IllegalArgumentException", "java/lang/IllegalStateException", "java/lang/UnsupportedOperationException", "java/util/NoSuchElementException", "java/lang/ArithmeticException"]
/-- no two of the six exceptions are of one another's kind -/
def zkNc (s : State) : Prop := ∀ a ∈ zkEx, ∀ b ∈ zkEx, a ≠ b → va_Nc a b s
def zkCs (s : State) : Prop := ∀ a ∈ zkEx, ∃ c t : ClassId, s.vm.findClass a = some c ∧ s.vm.findClass a = some t ∧ s.vm.assignable c t = true
theorem zkCs_use {s : State} (h : zkCs s) {a : String} (ha : a ∈ zkEx) (args : Array Value) : (Cond.castable a a).before args s = true := by
  obtain ⟨c, t, h1, h2, h3⟩ := h a ha
  cases Option.some.inj (h1.symm.trans h2)
  simp [Cond.before, Cond.holds, Cond.value, h1, h3]
theorem zkCs_go {s U : State} (hvm : s.vm.Alike U.vm) (h : zkCs s) : zkCs U := by
  intro a ha
  obtain ⟨c, t, h1, h2, h3⟩ := h a ha
  exact ⟨c, t, by rw [hvm.findClass]; exact h1, by rw [hvm.findClass]; exact h2, by rw [hvm.assignable]; exact h3⟩
/-! the judgement: a method stands at pc, with these locals, this stack, this memory, and comes to its end -/
/-- a method: name, code, locals, return type, own class, its instructions (pc, instruction, next pc), its handlers -/
abbrev zkI : Type := MethodName × ByteArray × Nat × Option FieldType × Nat × List (Nat × Instr × Nat) × List (Nat × Nat × Nat × Nat)
abbrev iY (i : zkI) : MethodName := i.1
abbrev iC (i : zkI) : ByteArray := i.2.1
abbrev iL (i : zkI) : Nat := i.2.2.1
abbrev iR (i : zkI) : Option FieldType := i.2.2.2.1
abbrev iO (i : zkI) : Nat := i.2.2.2.2.1
abbrev iT (i : zkI) : List (Nat × Instr × Nat) := i.2.2.2.2.2.1
abbrev iH (i : zkI) : List (Nat × Nat × Nat × Nat) := i.2.2.2.2.2.2
/-- its table is its code's -/
def zkOk (i : zkI) : Prop := ∀ q ∈ iT i, decode (iC i) q.1 = .ok (q.2.1, q.2.2 - q.1)
def zkAt? (i : zkI) (pc : Nat) : Option (Instr × Nat) := (iT i).lookup pc
theorem zk_lk {α : Type} {pc : Nat} {y : α} : ∀ {l : List (Nat × α)}, l.lookup pc = some y → (pc, y) ∈ l
  | [], h => by cases h
  | (a, b) :: l, h => by
    unfold List.lookup at h
    split at h
    · next e => cases h; rw [eq_of_beq e]; exact List.mem_cons_self
    · exact List.mem_cons_of_mem _ (zk_lk h)
theorem zk_dec {i : zkI} {pc nx : Nat} {ins : Instr} {n : Nat} (hO : zkOk i) (h : (iT i).lookup pc = some (ins, nx)) (hn : nx = pc + n) : decode (iC i) pc = .ok (ins, n) := by
  have h1 : decode (iC i) pc = .ok (ins, nx - pc) := hO (pc, ins, nx) (zk_lk h)
  rw [h1, hn, Nat.add_sub_cancel_left]
/-- the locals: what the list names is held -/
def zkLv (G : zkG) (a : Array Slot) (n : Nat) (ls : List (Option zkV)) : Prop := a.size = n ∧ lv_wf a ∧ ∀ (i : Nat) (v : zkV), ls[i]? = some (some v) → a[i]? = some (.val (tau G v))
/-- what holds of the start of a method besides its memory: words on nest mates, classes, the four statics of throws, strings -/
def zkStr (G : zkG) (s : State) (sz : Nat) : Prop := (∀ q ∈ zkSc, ∃ sa : Nat, vk_R q.1 q.2.1 q.2.2 sa s) ∧ (∀ q ∈ zkPt, vk_R q.1 q.2.1 q.2.2.1 (ga G (60, q.2.2.2)) s) ∧ vk_S 9 zkLn zkBy (fun k => ga G (60, k)) (fun k => ga G (61, k)) (zkA G sz) s s.heap ∧ (va_Z "java/lang/String" "COMPACT_STRINGS" "Z" (.int 1) (zkA G sz) s s.heap ∧ va_Zq "jdk/internal/util/Preconditions" "SIOOBE_FORMATTER" "Ljava/util/function/BiFunction;" (zkA G sz) s s.heap) ∧ zkNc s ∧ zkCs s
def zkSF (G : zkG) (s : State) (sz : Nat) : Prop :=
  zkJ G ∧ (∀ w ∈ zkNw, va_Nw w s) ∧ va_K (gD G) zkCl (zkTy G) s ∧ vx_Zq Bundle.tN "UNASSIGNED_STACK" Bundle.steD (zkA G sz) s s.heap ∧ vx_Zq Bundle.tN "SUPPRESSED_SENTINEL" Bundle.listD (zkA G sz) s s.heap ∧ zkStr G s sz
/-- the way of a walk: its room, its end, what else is known at its start -/
abbrev zkK : Type := Room × (List Frame → Array Value → State → State → Prop) × (Array Value → State → Prop)
def zkC (l : Launch) (G : zkG) (i : zkI) (K : zkK) (p : Program) (s : State) (m : MethodId) (args : Array Value) (meth : Method) (c : Code) : Prop :=
  p.tables.exec = Jvm.exec ∧ c.code = iC i ∧ meth.sig.returnType = iR i ∧ c.maxLocals = iL i ∧ s.vm.findClass (zkR (iO i)) = some m.cls ∧ (∀ w ∈ zkGw, w.before args s = true) ∧ zkSF G s s.heap.size ∧ meth.locks = false ∧ c.exceptionTable.toList = tableOf (iH i) ∧ l.stackTraces = false ∧ zkOk i ∧ K.2.2 args s
def zkW (l : Launch) (G : zkG) (i : zkI) (K : zkK) (cu su pc : Nat) (ls : List (Option zkV)) (st : List zkV) (mem : zkM) : Prop :=
  ∀ (p : Program) (e : Env) (s : State) (m : MethodId) (args : Array Value) (below : List Frame) (meth : Method) (c : Code), zkC l G i K p s m args meth c → ∀ (H : Heap) (locs : List Loc) (a : Array Slot), va_P (gD G) zkCl (wl G mem) H → va_S (zkA G s.heap.size) s.heap H locs → zkLv G a (iL i) ls →
    W p l e K.1 s m args below meth c H locs cu su (K.2.1 below args s) (F0 m pc a (st.map (tau G)))
theorem zkC_dec {l : Launch} {G : zkG} {i : zkI} {K : zkK} {p : Program} {s : State} {m : MethodId} {args : Array Value} {meth : Method} {c : Code} (C : zkC l G i K p s m args meth c) {pc nx n : Nat} {ins : Instr} (h : (iT i).lookup pc = some (ins, nx)) (hn : nx = pc + n) : decode (iC i) pc = .ok (ins, n) := zk_dec C.2.2.2.2.2.2.2.2.2.2.1 h hn
/-- a value in range -/
abbrev inR (x : Int) : Prop := -2147483648 ≤ x ∧ x < 2147483648
theorem i32_toInt {x : Int} (h : inR x) : (Int32.ofInt x).toInt = x := Int32.toInt_ofInt_of_le h.1 h.2
theorem i32_lt {x y : Int} (hx : inR x) (hy : inR y) : Int32.ofInt x < Int32.ofInt y ↔ x < y := by
  rw [Int32.lt_iff_toInt_lt, i32_toInt hx, i32_toInt hy]
theorem i32_le {x y : Int} (hx : inR x) (hy : inR y) : Int32.ofInt x ≤ Int32.ofInt y ↔ x ≤ y := by
  rw [Int32.le_iff_toInt_le, i32_toInt hx, i32_toInt hy]
theorem i32_eq {x y : Int} (hx : inR x) (hy : inR y) : Int32.ofInt x = Int32.ofInt y ↔ x = y := by
  rw [← Int32.toInt_inj, i32_toInt hx, i32_toInt hy]
theorem i32_0 : (0 : Int32) = Int32.ofInt 0 := by decide
theorem inR_0 : inR 0 := ⟨by decide, by decide⟩
