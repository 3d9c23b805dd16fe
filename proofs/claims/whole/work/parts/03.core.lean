/-! The machine over places: a world is a list of cells, a reference is a place in it. -/
def pv (ad : Nat → Nat) : Value → Value
  | .ref k => .ref (ad k)
  | v => v
def pe (ad cA : Nat → Nat) : va_E → va_E
  | .inl x => .inl (cA x.1, x.2)
  | .inr o => .inr (o.1, o.2.map (pv ad))
def pw (ad cA : Nat → Nat) (M : List va_E) : va_W := M.mapIdx (fun i e => (ad i, pe ad cA e))
theorem pw_at {ad cA : Nat → Nat} {M : List va_E} {k : Nat} {e : va_E} (h : M[k]? = some e) : (pw ad cA M)[k]? = some (ad k, pe ad cA e) := by
  simp [pw, List.getElem?_mapIdx, h]
theorem pw_len {ad cA : Nat → Nat} {M : List va_E} : (pw ad cA M).length = M.length := by simp [pw]
theorem pw_set {ad cA : Nat → Nat} {M : List va_E} {k : Nat} {e : va_E} : (pw ad cA M).set k (ad k, pe ad cA e) = pw ad cA (M.set k e) := by
  apply List.ext_getElem?
  intro i
  by_cases hi : k = i
  · subst hi
    by_cases hl : k < M.length
    · simp [pw, List.getElem?_mapIdx, List.getElem?_set, hl]
    · simp [pw, List.getElem?_mapIdx, List.getElem?_set, hl]
  · simp [pw, List.getElem?_mapIdx, List.getElem?_set, hi]
/-- a value whose reference lies below n -/
def pok (n : Nat) : Value → Bool
  | .ref k => decide (k < n)
  | _ => true
def pokE (n : Nat) : va_E → Bool
  | .inl _ => true
  | .inr o => o.2.all (pok n)
theorem pv_eq {ad ad' : Nat → Nat} {n : Nat} (h : ∀ i, i < n → ad' i = ad i) {v : Value} (hv : pok n v = true) : pv ad' v = pv ad v := by
  cases v <;> first | rfl | (simp [pok] at hv; simp [pv, h _ hv])
theorem pv_eqL {ad ad' : Nat → Nat} {n : Nat} (h : ∀ i, i < n → ad' i = ad i) {vs : List Value} (hv : vs.all (pok n) = true) : vs.map (pv ad') = vs.map (pv ad) := by
  apply List.map_congr_left
  intro v hm
  exact pv_eq h (List.all_eq_true.mp hv v hm)
theorem pe_eq {ad ad' cA : Nat → Nat} {n : Nat} (h : ∀ i, i < n → ad' i = ad i) {e : va_E} (he : pokE n e = true) : pe ad' cA e = pe ad cA e := by
  cases e with
  | inl x => rfl
  | inr o => simp only [pe]; rw [pv_eqL h he]
theorem pw_eq {ad ad' cA : Nat → Nat} {M : List va_E} (h : ∀ i, i < M.length → ad' i = ad i) (hM : M.all (pokE M.length) = true) : pw ad' cA M = pw ad cA M := by
  apply List.ext_getElem?
  intro i
  simp only [pw, List.getElem?_mapIdx]
  cases hi : M[i]? with
  | none => rfl
  | some e =>
    have hl : i < M.length := (List.getElem?_eq_some_iff.mp hi).1
    simp [h i hl, pe_eq h (List.all_eq_true.mp hM e (List.mem_of_getElem? hi))]
theorem pw_push {ad cA : Nat → Nat} {M : List va_E} {e : va_E} {q : Nat} (hM : M.all (pokE M.length) = true) (he : pokE M.length e = true) :
    pw (va_up ad M.length q) cA (M ++ [e]) = pw ad cA M ++ [(q, pe ad cA e)] := by
  have h : ∀ i, i < M.length → va_up ad M.length q i = ad i := fun i hi => va_up_ne ad q (Nat.ne_of_lt hi)
  unfold pw
  rw [List.mapIdx_append]
  have h1 := pw_eq (cA := cA) h hM
  unfold pw at h1
  rw [h1]
  simp [va_up_self, pe_eq h he]
/-- a local or a value of the stack: a place of the world, or the script's (place 1000) -/
def pkl (n : Nat) : Value → Bool
  | .ref k => decide (k < n) || decide (k = 1000)
  | _ => true
theorem pv_eqX {ad ad' : Nat → Nat} {n m : Nat} (h : ∀ i, i < n ∨ m ≤ i → ad' i = ad i) (hm : m ≤ 1000) {v : Value} (hv : pkl n v = true) : pv ad' v = pv ad v := by
  cases v with
  | ref k =>
    have hk : ad' k = ad k := by
      simp only [pkl, Bool.or_eq_true, decide_eq_true_eq] at hv
      rcases hv with z | z
      · exact h k (Or.inl z)
      · subst z; exact h 1000 (Or.inr hm)
    show Value.ref (ad' k) = Value.ref (ad k)
    rw [hk]
  | _ => rfl
theorem pv_eqXL {ad ad' : Nat → Nat} {n m : Nat} (h : ∀ i, i < n ∨ m ≤ i → ad' i = ad i) (hm : m ≤ 1000) {vs : List Value} (hv : vs.all (pkl n) = true) : vs.map (pv ad') = vs.map (pv ad) :=
  List.map_congr_left fun v hv9 => pv_eqX h hm (List.all_eq_true.mp hv v hv9)
/-- the script: its length and its ints, at place 1000, outside the world, not written -/
abbrev EXT : Type := Option (Nat × (Nat → Int32))
def EX : EXT → (Nat → Nat) → State → (Nat → Prop) → Prop
  | none, _, _, _ => True
  | some x, ad, s, A => va_X (ad 1000) x.1 x.2 s s.heap ∧ ad 1000 < s.heap.size ∧ ¬ A (ad 1000)
theorem EX.ad {x : EXT} {ad ad' : Nat → Nat} {s : State} {A : Nat → Prop} (h : EX x ad s A) (he : ad' 1000 = ad 1000) : EX x ad' s A := by
  cases x with
  | none => trivial
  | some x => show va_X (ad' 1000) _ _ _ _ ∧ _; rw [he]; exact h
theorem EX.moved {x : EXT} {ad : Nat → Nat} {u U : State} {A : Nat → Prop} (h : EX x ad u A) (hv : u.vm.Alike U.vm) (hh : U.heap = u.heap) : EX x ad U A := by
  cases x with
  | none => trivial
  | some x => exact ⟨by rw [hh]; exact va_X.moved hv h.1, by rw [hh]; exact h.2.1, h.2.2⟩
/-! What a method is: its name, its class, its own name, its bytes, its words, its locals, its answer's type, its room, the cells and slots that it may make, its table of handlers, the script if it has it -/
abbrev MI : Type := MethodName × String × String × ByteArray × List Cond × Nat × Option FieldType × Room × (Nat × Nat) × List ExceptionTableEntry × EXT
abbrev MI.y (I : MI) : MethodName := I.1
abbrev MI.own (I : MI) : String := I.2.1
abbrev MI.nm (I : MI) : String := I.2.2.1
abbrev MI.cc (I : MI) : ByteArray := I.2.2.2.1
abbrev MI.ws (I : MI) : List Cond := I.2.2.2.2.1
abbrev MI.nL (I : MI) : Nat := I.2.2.2.2.2.1
abbrev MI.ret (I : MI) : Option FieldType := I.2.2.2.2.2.2.1
abbrev MI.rm (I : MI) : Room := I.2.2.2.2.2.2.2.1
abbrev MI.mc (I : MI) : Nat := I.2.2.2.2.2.2.2.2.1.1
abbrev MI.ms (I : MI) : Nat := I.2.2.2.2.2.2.2.2.1.2
abbrev MI.tab (I : MI) : List ExceptionTableEntry := I.2.2.2.2.2.2.2.2.2.1
abbrev MI.ex (I : MI) : EXT := I.2.2.2.2.2.2.2.2.2.2
/-- how a call ends: an answer and the world, or the name of what is thrown and the world -/
abbrev Out : Type := (Option Value × List va_E) ⊕ (String × List va_E)
def ty3 (cA : Nat → Nat) : List (ClassId × FieldType) := [(cA 0, .int), (cA 1, .boolean), (cA 2, .long)]
/-- the words of a throw that speak of the heap -/
def zw : List Cond := [.isRef (.static Bundle.tN "UNASSIGNED_STACK" Bundle.steD), .isRef (.static Bundle.tN "SUPPRESSED_SENTINEL" Bundle.listD), .laysStatic Bundle.tN "UNASSIGNED_STACK" Bundle.steD, .laysStatic Bundle.tN "SUPPRESSED_SENTINEL" Bundle.listD]
/-- .. hold wherever the tables are alike and what lies outside A is as it is -/
def ZZ (A : Nat → Prop) (s : State) (H : Heap) : Prop := ∀ (U : State) (a' : Array Value), s.vm.Alike U.vm → H.size ≤ U.heap.size → (∀ q : Nat, q < H.size → ¬ A q → U.heap[q]? = H[q]?) → ∀ w ∈ zw, w.before a' U = true
theorem ZZ.kept {A : Nat → Prop} {s : State} {H H1 : Heap} (h : ZZ A s H) (hz : H.size ≤ H1.size) (hq : ∀ q : Nat, q < H.size → ¬ A q → H1[q]? = H[q]?) : ZZ A s H1 :=
  fun U a' h1 h2 h3 => h U a' h1 (Nat.le_trans hz h2) (fun q g1 g2 => (h3 q (Nat.lt_of_lt_of_le g1 hz) g2).trans (hq q g1 g2))
theorem ZZ.moved {A : Nat → Prop} {s U : State} {H : Heap} (h : ZZ A s H) (hv : s.vm.Alike U.vm) : ZZ A U H := fun V a' h1 => h V a' (hv.trans h1)
theorem ZZ.narrow {A B : Nat → Prop} {s : State} {H : Heap} (h : ZZ A s H) (hAB : ∀ q, q < H.size → B q → A q) : ZZ B s H := fun U a' h1 h2 h3 => h U a' h1 h2 (fun q g1 g2 => h3 q g1 (fun z => g2 (hAB q g1 z)))
/-- a word that stays true while the tables warm -/
def okw : Cond → Bool
  | .methodLinkNest .. => true
  | .castable .. => true
  | .declares .. => true
  | w => goodWord w
theorem okw_at {a a' : Array Value} {s U : State} {w : Cond} (hW : s.WarmedH U.vm) (hg : okw w = true) (h : w.before a s = true) : w.before a' U = true := by
  cases w <;> first
    | exact va_Nw.use rfl (va_Nw.warmM hW (va_Nw.of rfl h))
    | exact va_Nw.use rfl (va_Nw.warmC hW (va_Nw.of rfl h))
    | exact va_Nw.use rfl (va_Nw.warmD hW (va_Nw.of rfl h))
    | exact word_at hW (good_of_word hg) h
/-- what is thrown and not caught by a row that names another class -/
def ncp : List (String × String) := [("java/lang/IllegalStateException", "java/lang/IllegalArgumentException"), ("java/lang/IllegalStateException", "java/util/NoSuchElementException"), ("java/util/NoSuchElementException", "java/lang/IllegalArgumentException"), ("java/lang/IndexOutOfBoundsException", "java/util/NoSuchElementException"), ("java/lang/ArithmeticException", "java/lang/IllegalArgumentException")]
/-- the tables' words, here and wherever the tables are warmer -/
def NW (s : State) : Prop := (∀ (U : State) (a' : Array Value), s.WarmedH U.vm → ∀ w ∈ lw_tbl, okw w = true → w.before a' U = true) ∧ ∀ q ∈ ncp, va_Nc q.1 q.2 s
theorem NW.moved {s U : State} (h : NW s) (hW : s.WarmedH U.vm) : NW U := ⟨fun V a' h1 => h.1 V a' (State.WarmedH.trans hW h1), fun q hq => va_Nc.moved hW.alike (h.2 q hq)⟩
theorem NW.at {s : State} (h : NW s) {w : Cond} (hw : w ∈ lw_tbl) (ho : okw w = true) (args : Array Value) : w.before args s = true := h.1 s args (State.WarmedH.refl s) w hw ho
/-- a method's start -/
def Ps (x : EXT) (D : va_G) (cA ad : Nat → Nat) (as : List Value) (M : List va_E) (sz : Nat) : Array Value → State → Prop := va_Pc (as.map (pv ad)) (fun U => U.heap.size = sz ∧ va_P D vwCl (pw ad cA M) U.heap ∧ va_K D vwCl (ty3 cA) U ∧ va_D (fun _ => True) (pw ad cA M) ∧ ZZ (va_A (pw ad cA M) sz) U U.heap ∧ NW U ∧ EX x ad U (va_A (pw ad cA M) sz))
/-- .. and its end -/
def Qr (D : va_G) (cA ad : Nat → Nat) (n : Nat) (A : Nat → Prop) (r : Option Value × List va_E) : Array Value → State → Outcome → State → Prop := fun _ st o t =>
  (∃ ad' : Nat → Nat, (∀ i, i < n ∨ r.2.length ≤ i → ad' i = ad i) ∧ (r.2.length = n → ad' = ad) ∧ n ≤ r.2.length ∧ o = .returned (r.1.map (pv ad')) ∧ va_P D vwCl (pw ad' cA r.2) t.heap ∧ va_K D vwCl (ty3 cA) t ∧ va_D A (pw ad' cA r.2)) ∧ va_F A st t
def Qt (D : va_G) (cA ad : Nat → Nat) (n : Nat) (A : Nat → Prop) (mc ms : Nat) (r : String × List va_E) : Array Value → State → Outcome → State → Prop := fun _ st o t =>
  (∃ ad' : Nat → Nat, (∀ i, i < n → ad' i = ad i) ∧ (r.2.length = n → ad' = ad) ∧ n ≤ r.2.length ∧ va_P D vwCl (pw ad' cA r.2) t.heap ∧ va_K D vwCl (ty3 cA) t ∧ va_D A (pw ad' cA r.2)) ∧ ∃ (q : Addr) (ce : Cell) (L : List Loc), o = .threw q ∧ t.heap[q]? = some ce ∧ ce.vm = .none ∧ st.vm.findClass r.1 = some ce.cls ∧ va_F A st t ∧ st.WarmedH t.vm ∧ st.sameButNew ({ t with vm := st.vm } : State) L mc ms ∧ ∀ z ∈ L, A z.base
def Con (l : Launch) (I : MI) (as : List Value) (M : List va_E) : Out → Prop
  | .inl r => ∀ (D : va_G) (cA ad : Nat → Nat) (sz : Nat), Met l I.y I.ws I.rm (Ps I.ex D cA ad as M sz) (Qr D cA ad M.length (va_A (pw ad cA M) sz) r) I.mc I.ms (va_A (pw ad cA M) sz)
  | .inr r => ∀ (D : va_G) (cA ad : Nat → Nat) (sz : Nat), MetFree l I.y (headSpec I.ws I.rm) (Ps I.ex D cA ad as M sz) (fun _ _ _ _ _ => True) (Qt D cA ad M.length (va_A (pw ad cA M) sz) I.mc I.ms r)
/-- what holds at every point of a walk -/
def Cx (I : MI) (D : va_G) (cA ad : Nat → Nat) (p : Program) (s : State) (m : MethodId) (args : Array Value) (meth : Method) (c : Code) (A : Nat → Prop) (locs : List Loc) (H : Heap) (ls : Array Slot) (lv : List (Nat × Value)) (M : List va_E) : Prop :=
  p.tables.exec = Jvm.exec ∧ c.code = I.cc ∧ c.maxLocals = I.nL ∧ meth.sig.returnType = I.ret ∧ meth.locks = false ∧ meth.name = I.nm ∧ c.exceptionTable.toList = I.tab ∧ NW s ∧ s.vm.findClass I.own = some m.cls ∧
  va_K D vwCl (ty3 cA) s ∧ va_P D vwCl (pw ad cA M) H ∧ va_D A (pw ad cA M) ∧ va_S A s.heap H locs ∧ ((∀ q, s.heap.size ≤ q → A q) ∧ EX I.ex ad s A) ∧ ZZ A s s.heap ∧ lv_has ls I.nL (lv.map (fun q => (q.1, pv ad q.2)))
def JQ (D : va_G) (cA ad : Nat → Nat) (n : Nat) (A : Nat → Prop) (mc ms : Nat) (below : List Frame) (args : Array Value) (s : State) : Out → State → Prop
  | .inl r => MQ below (Qr D cA ad n A r) args s mc ms A
  | .inr r => fun t => ∃ o, t.status = .running ∧ Ended t below o ∧ Qt D cA ad n A mc ms r args s o t
/-- the judgement: from here the method ends as 'out' says -/
def J (l : Launch) (I : MI) (pc : Nat) (lv : List (Nat × Value)) (st : List Value) (M : List va_E) (k n : Nat) (out : Out) : Prop :=
  ∀ (D : va_G) (cA ad : Nat → Nat) (p : Program) (e : Env) (s : State) (m : MethodId) (args : Array Value) (below : List Frame) (meth : Method) (c : Code) (A : Nat → Prop) (locs : List Loc) (H : Heap) (ls : Array Slot),
    Cx I D cA ad p s m args meth c A locs H ls lv M → W p l e I.rm s m args below meth c H locs k n (JQ D cA ad M.length A I.mc I.ms below args s out) (F0 m pc ls (st.map (pv ad)))
