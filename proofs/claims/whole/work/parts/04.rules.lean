section RULES
variable {l : Launch} {I : MI} {pc : Nat} {lv : List (Nat × Value)} {st : List Value} {M : List va_E} {k n : Nat} {out : Out}
theorem pv_cat (ad : Nat → Nat) (v : Value) : (pv ad v).category = v.category := by cases v <;> rfl
/-- a local by its number -/
def lk : List (Nat × Value) → Nat → Option Value
  | [], _ => none
  | q :: r, i => if q.1 = i then some q.2 else lk r i
theorem lk_mem : ∀ {lv : List (Nat × Value)} {i : Nat} {v : Value}, lk lv i = some v → (i, v) ∈ lv
  | [], _, _, h => by cases h
  | q :: r, i, v, h => by
    unfold lk at h
    split at h
    · rename_i e; cases h; subst e; exact List.mem_cons_self
    · exact List.mem_cons_of_mem _ (lk_mem h)
/-- .. set -/
def sv : List (Nat × Value) → Nat → Value → List (Nat × Value)
  | [], i, v => [(i, v)]
  | q :: r, i, v => if q.1 = i then (i, v) :: r else q :: sv r i v
/-- locals that stand once each, and no long one just ahead of i -/
def ndb : List (Nat × Value) → Bool
  | [] => true
  | q :: r => r.all (fun z => !(Nat.beq z.1 q.1)) && ndb r
theorem ndb_nodup : ∀ {lv : List (Nat × Value)}, ndb lv = true → (lv.map (·.1)).Nodup
  | [], _ => List.nodup_nil
  | q :: r, h => by
    simp only [ndb, Bool.and_eq_true] at h
    simp only [List.map_cons, List.nodup_cons]
    refine ⟨fun hm => ?_, ndb_nodup h.2⟩
    obtain ⟨z, hz, e⟩ := List.mem_map.mp hm
    have := List.all_eq_true.mp h.1 z hz
    simp [e, Nat.beq_eq_true_eq] at this
def sok (lv : List (Nat × Value)) (i : Nat) : Bool := lv.all (fun q => !(Nat.beq (q.1 + 1) i && Nat.beq q.2.category 2)) && ndb lv
theorem sv_mem : ∀ {lv : List (Nat × Value)} {i : Nat} {v : Value}, (lv.map (·.1)).Nodup → ∀ q ∈ sv lv i v, q = (i, v) ∨ (q ∈ lv ∧ q.1 ≠ i)
  | [], i, v, _, q, h => by simp [sv] at h; exact Or.inl h
  | q0 :: r, i, v, hn, q, h => by
    simp only [List.map_cons, List.nodup_cons] at hn
    unfold sv at h
    split at h
    · rename_i e
      rcases List.mem_cons.mp h with h | h
      · exact Or.inl h
      · refine Or.inr ⟨List.mem_cons_of_mem _ h, fun e2 => hn.1 ?_⟩
        rw [e, ← e2]; exact List.mem_map.mpr ⟨q, h, rfl⟩
    · rename_i e
      rcases List.mem_cons.mp h with h | h
      · subst h; exact Or.inr ⟨List.mem_cons_self, e⟩
      · rcases sv_mem hn.2 q h with h | h
        · exact Or.inl h
        · exact Or.inr ⟨List.mem_cons_of_mem _ h.1, h.2⟩
theorem lk_has {ad : Nat → Nat} {ls : Array Slot} {nL i : Nat} {v : Value} (h : lv_has ls nL (lv.map (fun q => (q.1, pv ad q.2)))) (hl : lk lv i = some v) : ls[i]? = some (.val (pv ad v)) :=
  h.2.2 (i, pv ad v) (List.mem_map.mpr ⟨(i, v), lk_mem hl, rfl⟩)
theorem sv_has {ad : Nat → Nat} {ls' : Array Slot} {nL i : Nat} {v : Value} (hs : sok lv i = true)
    (h : lv_has ls' nL ((i, pv ad v) :: (lv.map (fun q => (q.1, pv ad q.2))).filter (fun q => !(q.1 == i) && !(q.1 + 1 == i && q.2.category == 2)))) : lv_has ls' nL ((sv lv i v).map (fun q => (q.1, pv ad q.2))) := by
  simp only [sok, Bool.and_eq_true] at hs
  refine ⟨h.1, h.2.1, fun q hq => ?_⟩
  obtain ⟨q0, hq0, rfl⟩ := List.mem_map.mp hq
  refine h.2.2 _ ?_
  rcases sv_mem (ndb_nodup hs.2) q0 hq0 with e | ⟨hm, hne⟩
  · subst e; exact List.mem_cons_self
  · refine List.mem_cons_of_mem _ (List.mem_filter.mpr ⟨List.mem_map.mpr ⟨q0, hm, rfl⟩, ?_⟩)
    have h1 := List.all_eq_true.mp hs.1 q0 hm
    simp only [pv_cat]
    simp only [Bool.and_eq_true, Bool.not_eq_true', beq_eq_false_iff_ne]
    refine ⟨hne, ?_⟩
    cases hz : (q0.1 + 1 == i && q0.2.category == 2) with
    | false => rfl
    | true =>
      simp only [Bool.and_eq_true, beq_iff_eq] at hz
      rw [hz.1, hz.2] at h1
      simp at h1
theorem Cx.lv' {D : va_G} {cA ad : Nat → Nat} {p : Program} {s : State} {m : MethodId} {args : Array Value} {meth : Method} {c : Code} {A : Nat → Prop} {locs : List Loc} {H : Heap} {ls ls' : Array Slot} {lv' : List (Nat × Value)}
    (h : Cx I D cA ad p s m args meth c A locs H ls lv M) (h' : lv_has ls' I.nL (lv'.map (fun q => (q.1, pv ad q.2)))) : Cx I D cA ad p s m args meth c A locs H ls' lv' M := by
  obtain ⟨a1, a2, a3, a4, a5, a6, a7, a8, a9, a10, a11, a12, a13, a14, a15, -⟩ := h
  exact ⟨a1, a2, a3, a4, a5, a6, a7, a8, a9, a10, a11, a12, a13, a14, a15, h'⟩
theorem Cx.hp {D : va_G} {cA ad : Nat → Nat} {p : Program} {s : State} {m : MethodId} {args : Array Value} {meth : Method} {c : Code} {A : Nat → Prop} {locs locs' : List Loc} {H H' : Heap} {ls : Array Slot} {M' : List va_E}
    (h : Cx I D cA ad p s m args meth c A locs H ls lv M) (hP : va_P D vwCl (pw ad cA M') H') (hD : va_D A (pw ad cA M')) (hS : va_S A s.heap H' locs') : Cx I D cA ad p s m args meth c A locs' H' ls lv M' := by
  obtain ⟨a1, a2, a3, a4, a5, a6, a7, a8, a9, a10, -, -, -, a14, a15, a16⟩ := h
  exact ⟨a1, a2, a3, a4, a5, a6, a7, a8, a9, a10, hP, hD, hS, a14, a15, a16⟩
theorem Cx.hx {D : va_G} {cA ad : Nat → Nat} {p : Program} {s : State} {m : MethodId} {args : Array Value} {meth : Method} {c : Code} {A : Nat → Prop} {locs : List Loc} {H : Heap} {ls : Array Slot} (h : Cx I D cA ad p s m args meth c A locs H ls lv M) : p.tables.exec = Jvm.exec := h.1
theorem Cx.hb {D : va_G} {cA ad : Nat → Nat} {p : Program} {s : State} {m : MethodId} {args : Array Value} {meth : Method} {c : Code} {A : Nat → Prop} {locs : List Loc} {H : Heap} {ls : Array Slot} (h : Cx I D cA ad p s m args meth c A locs H ls lv M) : c.code = I.cc := h.2.1
theorem Cx.hl {D : va_G} {cA ad : Nat → Nat} {p : Program} {s : State} {m : MethodId} {args : Array Value} {meth : Method} {c : Code} {A : Nat → Prop} {locs : List Loc} {H : Heap} {ls : Array Slot} (h : Cx I D cA ad p s m args meth c A locs H ls lv M) : lv_has ls I.nL (lv.map (fun q => (q.1, pv ad q.2))) := h.2.2.2.2.2.2.2.2.2.2.2.2.2.2.2
theorem J.iconst {z : Int} {v : Int32} (hd : decode I.cc pc = .ok (.iconst z, 1)) (hv : Int32.ofInt z = v) (kk : J l I (pc + 1) lv (.int v :: st) M k n out) : J l I pc lv (st) M k n out :=
  fun D cA ad p e s m args below meth c A locs H ls h => lv_iconst h.hx h.hb hd hv (kk D cA ad p e s m args below meth c A locs H ls h)
theorem J.bipush {z : Int} {v : Int32} (hd : decode I.cc pc = .ok (.bipush z, 2)) (hv : (Int8.ofInt z).toInt32 = v) (kk : J l I (pc + 2) lv (.int v :: st) M k n out) : J l I pc lv (st) M k n out :=
  fun D cA ad p e s m args below meth c A locs H ls h => lv_bipush h.hx h.hb hd hv (kk D cA ad p e s m args below meth c A locs H ls h)
theorem J.sipush {z : Int} {v : Int32} (hd : decode I.cc pc = .ok (.sipush z, 3)) (hv : (Int16.ofInt z).toInt32 = v) (kk : J l I (pc + 3) lv (.int v :: st) M k n out) : J l I pc lv (st) M k n out :=
  fun D cA ad p e s m args below meth c A locs H ls h => lv_sipush h.hx h.hb hd hv (kk D cA ad p e s m args below meth c A locs H ls h)
theorem J.lconst {z : Fin 2} {v : Int64} (hd : decode I.cc pc = .ok (.lconst z, 1)) (hv : Int64.ofNat (z : Nat) = v) (kk : J l I (pc + 1) lv (.long v :: st) M k n out) : J l I pc lv (st) M k n out :=
  fun D cA ad p e s m args below meth c A locs H ls h => lv_lconst h.hx h.hb hd hv (kk D cA ad p e s m args below meth c A locs H ls h)
theorem J.iload_n {j : Fin 4} {i : Nat} {x : Int32} (hd : decode I.cc pc = .ok (.iload_n j, 1)) (hi : (j : Nat) = i) (hl : lk lv i = some (.int x)) (kk : J l I (pc + 1) lv (.int x :: st) M k n out) : J l I pc lv (st) M k n out :=
  fun D cA ad p e s m args below meth c A locs H ls h => lv_iload_n h.hx h.hb hd hi (lk_has h.hl hl) (kk D cA ad p e s m args below meth c A locs H ls h)
theorem J.iload {i : Nat} {x : Int32} (hd : decode I.cc pc = .ok (.iload i, 2)) (hl : lk lv i = some (.int x)) (kk : J l I (pc + 2) lv (.int x :: st) M k n out) : J l I pc lv (st) M k n out :=
  fun D cA ad p e s m args below meth c A locs H ls h => lv_iload h.hx h.hb hd (lk_has h.hl hl) (kk D cA ad p e s m args below meth c A locs H ls h)
theorem J.lload_n {j : Fin 4} {i : Nat} {x : Int64} (hd : decode I.cc pc = .ok (.lload_n j, 1)) (hi : (j : Nat) = i) (hl : lk lv i = some (.long x)) (kk : J l I (pc + 1) lv (.long x :: st) M k n out) : J l I pc lv (st) M k n out :=
  fun D cA ad p e s m args below meth c A locs H ls h => lv_lload_n h.hx h.hb hd hi (lk_has h.hl hl) (kk D cA ad p e s m args below meth c A locs H ls h)
theorem J.lload {i : Nat} {x : Int64} (hd : decode I.cc pc = .ok (.lload i, 2)) (hl : lk lv i = some (.long x)) (kk : J l I (pc + 2) lv (.long x :: st) M k n out) : J l I pc lv (st) M k n out :=
  fun D cA ad p e s m args below meth c A locs H ls h => lv_lload h.hx h.hb hd (lk_has h.hl hl) (kk D cA ad p e s m args below meth c A locs H ls h)
theorem J.aload_n {j : Fin 4} {i : Nat} {x : Nat} (hd : decode I.cc pc = .ok (.aload_n j, 1)) (hi : (j : Nat) = i) (hl : lk lv i = some (.ref x)) (kk : J l I (pc + 1) lv (.ref x :: st) M k n out) : J l I pc lv (st) M k n out :=
  fun D cA ad p e s m args below meth c A locs H ls h => lv_aload_n h.hx h.hb hd hi (lk_has h.hl hl) (kk D cA ad p e s m args below meth c A locs H ls h)
theorem J.aload {i : Nat} {x : Nat} (hd : decode I.cc pc = .ok (.aload i, 2)) (hl : lk lv i = some (.ref x)) (kk : J l I (pc + 2) lv (.ref x :: st) M k n out) : J l I pc lv (st) M k n out :=
  fun D cA ad p e s m args below meth c A locs H ls h => lv_aload h.hx h.hb hd (lk_has h.hl hl) (kk D cA ad p e s m args below meth c A locs H ls h)
theorem J.istore_n {j : Fin 4} {i : Nat} {x : Int32} {r : List Value} (hd : decode I.cc pc = .ok (.istore_n j, 1)) (hi : (j : Nat) = i) (hn : i < I.nL) (hs : sok lv i = true) (kk : J l I (pc + 1) (sv lv i (.int x)) r M k n out) : J l I pc lv (.int x :: r) M k n out :=
  fun D cA ad p e s m args below meth c A locs H ls h => lv_istore_n h.hx h.hb hd hi h.hl hn rfl (fun ls' h' => kk D cA ad p e s m args below meth c A locs H ls' (h.lv' (sv_has (v := .int x) hs h')))
theorem J.istore {i : Nat} {x : Int32} {r : List Value} (hd : decode I.cc pc = .ok (.istore i, 2)) (hn : i < I.nL) (hs : sok lv i = true) (kk : J l I (pc + 2) (sv lv i (.int x)) r M k n out) : J l I pc lv (.int x :: r) M k n out :=
  fun D cA ad p e s m args below meth c A locs H ls h => lv_istore h.hx h.hb hd h.hl hn rfl (fun ls' h' => kk D cA ad p e s m args below meth c A locs H ls' (h.lv' (sv_has (v := .int x) hs h')))
theorem J.astore_n {j : Fin 4} {i : Nat} {x : Nat} {r : List Value} (hd : decode I.cc pc = .ok (.astore_n j, 1)) (hi : (j : Nat) = i) (hn : i < I.nL) (hs : sok lv i = true) (kk : J l I (pc + 1) (sv lv i (.ref x)) r M k n out) : J l I pc lv (.ref x :: r) M k n out :=
  fun D cA ad p e s m args below meth c A locs H ls h => lv_astore_n h.hx h.hb hd hi h.hl hn rfl (fun ls' h' => kk D cA ad p e s m args below meth c A locs H ls' (h.lv' (sv_has (v := .ref x) hs h')))
theorem J.astore {i : Nat} {x : Nat} {r : List Value} (hd : decode I.cc pc = .ok (.astore i, 2)) (hn : i < I.nL) (hs : sok lv i = true) (kk : J l I (pc + 2) (sv lv i (.ref x)) r M k n out) : J l I pc lv (.ref x :: r) M k n out :=
  fun D cA ad p e s m args below meth c A locs H ls h => lv_astore h.hx h.hb hd h.hl hn rfl (fun ls' h' => kk D cA ad p e s m args below meth c A locs H ls' (h.lv' (sv_has (v := .ref x) hs h')))
theorem J.iinc {i : Nat} {z : Int} {x v : Int32} (hd : decode I.cc pc = .ok (.iinc i z, 3)) (hl : lk lv i = some (.int x)) (hv : x + Int32.ofInt z = v) (hn : i < I.nL) (hs : sok lv i = true) (kk : J l I (pc + 3) (sv lv i (.int v)) st M k n out) : J l I pc lv st M k n out := by
  intro D cA ad p e s m args below meth c A locs H ls h
  obtain ⟨j, hj⟩ := List.getElem?_of_mem (List.mem_map.mpr ⟨(i, Value.int x), lk_mem hl, rfl⟩ : (i, pv ad (Value.int x)) ∈ lv.map (fun q => (q.1, pv ad q.2)))
  exact lv_iinc h.hx h.hb hd h.hl (k := j) hj hv hn rfl (fun ls' h' => kk D cA ad p e s m args below meth c A locs H ls' (h.lv' (sv_has (v := .int v) hs h')))
theorem J.iadd {x y : Int32} {r : List Value} (hd : decode I.cc pc = .ok (.iadd, 1)) (kk : J l I (pc + 1) lv (.int (x + y) :: r) M k n out) : J l I pc lv (.int y :: .int x :: r) M k n out :=
  fun D cA ad p e s m args below meth c A locs H ls h => lv_iadd h.hx h.hb hd (kk D cA ad p e s m args below meth c A locs H ls h)
theorem J.isub {x y : Int32} {r : List Value} (hd : decode I.cc pc = .ok (.isub, 1)) (kk : J l I (pc + 1) lv (.int (x - y) :: r) M k n out) : J l I pc lv (.int y :: .int x :: r) M k n out :=
  fun D cA ad p e s m args below meth c A locs H ls h => lv_isub h.hx h.hb hd (kk D cA ad p e s m args below meth c A locs H ls h)
theorem J.imul {x y : Int32} {r : List Value} (hd : decode I.cc pc = .ok (.imul, 1)) (kk : J l I (pc + 1) lv (.int (x * y) :: r) M k n out) : J l I pc lv (.int y :: .int x :: r) M k n out :=
  fun D cA ad p e s m args below meth c A locs H ls h => lv_imul h.hx h.hb hd (kk D cA ad p e s m args below meth c A locs H ls h)
theorem J.iand {x y : Int32} {r : List Value} (hd : decode I.cc pc = .ok (.iand, 1)) (kk : J l I (pc + 1) lv (.int (x &&& y) :: r) M k n out) : J l I pc lv (.int y :: .int x :: r) M k n out :=
  fun D cA ad p e s m args below meth c A locs H ls h => lv_iand h.hx h.hb hd (kk D cA ad p e s m args below meth c A locs H ls h)
theorem J.ior {x y : Int32} {r : List Value} (hd : decode I.cc pc = .ok (.ior, 1)) (kk : J l I (pc + 1) lv (.int (x ||| y) :: r) M k n out) : J l I pc lv (.int y :: .int x :: r) M k n out :=
  fun D cA ad p e s m args below meth c A locs H ls h => lv_ior h.hx h.hb hd (kk D cA ad p e s m args below meth c A locs H ls h)
theorem J.ixor {x y : Int32} {r : List Value} (hd : decode I.cc pc = .ok (.ixor, 1)) (kk : J l I (pc + 1) lv (.int (x ^^^ y) :: r) M k n out) : J l I pc lv (.int y :: .int x :: r) M k n out :=
  fun D cA ad p e s m args below meth c A locs H ls h => lv_ixor h.hx h.hb hd (kk D cA ad p e s m args below meth c A locs H ls h)
theorem J.land {x y : Int64} {r : List Value} (hd : decode I.cc pc = .ok (.land, 1)) (kk : J l I (pc + 1) lv (.long (x &&& y) :: r) M k n out) : J l I pc lv (.long y :: .long x :: r) M k n out :=
  fun D cA ad p e s m args below meth c A locs H ls h => lv_land h.hx h.hb hd (kk D cA ad p e s m args below meth c A locs H ls h)
theorem J.lor {x y : Int64} {r : List Value} (hd : decode I.cc pc = .ok (.lor, 1)) (kk : J l I (pc + 1) lv (.long (x ||| y) :: r) M k n out) : J l I pc lv (.long y :: .long x :: r) M k n out :=
  fun D cA ad p e s m args below meth c A locs H ls h => lv_lor h.hx h.hb hd (kk D cA ad p e s m args below meth c A locs H ls h)
theorem J.lxor {x y : Int64} {r : List Value} (hd : decode I.cc pc = .ok (.lxor, 1)) (kk : J l I (pc + 1) lv (.long (x ^^^ y) :: r) M k n out) : J l I pc lv (.long y :: .long x :: r) M k n out :=
  fun D cA ad p e s m args below meth c A locs H ls h => lv_lxor h.hx h.hb hd (kk D cA ad p e s m args below meth c A locs H ls h)
theorem J.ladd {x y : Int64} {r : List Value} (hd : decode I.cc pc = .ok (.ladd, 1)) (kk : J l I (pc + 1) lv (.long (x + y) :: r) M k n out) : J l I pc lv (.long y :: .long x :: r) M k n out :=
  fun D cA ad p e s m args below meth c A locs H ls h => lv_ladd h.hx h.hb hd (kk D cA ad p e s m args below meth c A locs H ls h)
theorem J.idiv {x y : Int32} {r : List Value} (hd : decode I.cc pc = .ok (.idiv, 1)) (hne : ¬ y = 0) (kk : J l I (pc + 1) lv (.int (x / y) :: r) M k n out) : J l I pc lv (.int y :: .int x :: r) M k n out :=
  fun D cA ad p e s m args below meth c A locs H ls h => lv_idiv h.hx h.hb hd hne (kk D cA ad p e s m args below meth c A locs H ls h)
theorem J.irem {x y : Int32} {r : List Value} (hd : decode I.cc pc = .ok (.irem, 1)) (hne : ¬ y = 0) (kk : J l I (pc + 1) lv (.int (x - x / y * y) :: r) M k n out) : J l I pc lv (.int y :: .int x :: r) M k n out :=
  fun D cA ad p e s m args below meth c A locs H ls h => lv_irem h.hx h.hb hd hne (kk D cA ad p e s m args below meth c A locs H ls h)
theorem J.ishl {x y : Int32} {r : List Value} (hd : decode I.cc pc = .ok (.ishl, 1)) (kk : J l I (pc + 1) lv (.int (x <<< (y &&& 31)) :: r) M k n out) : J l I pc lv (.int y :: .int x :: r) M k n out :=
  fun D cA ad p e s m args below meth c A locs H ls h => lv_ishl h.hx h.hb hd (kk D cA ad p e s m args below meth c A locs H ls h)
theorem J.ishr {x y : Int32} {r : List Value} (hd : decode I.cc pc = .ok (.ishr, 1)) (kk : J l I (pc + 1) lv (.int (x >>> (y &&& 31)) :: r) M k n out) : J l I pc lv (.int y :: .int x :: r) M k n out :=
  fun D cA ad p e s m args below meth c A locs H ls h => lv_ishr h.hx h.hb hd (kk D cA ad p e s m args below meth c A locs H ls h)
theorem J.i2l {x : Int32} {r : List Value} (hd : decode I.cc pc = .ok (.i2l, 1)) (kk : J l I (pc + 1) lv (.long x.toInt64 :: r) M k n out) : J l I pc lv (.int x :: r) M k n out :=
  fun D cA ad p e s m args below meth c A locs H ls h => lv_i2l h.hx h.hb hd rfl (kk D cA ad p e s m args below meth c A locs H ls h)
theorem J.l2i {x : Int64} {r : List Value} (hd : decode I.cc pc = .ok (.l2i, 1)) (kk : J l I (pc + 1) lv (.int x.toInt32 :: r) M k n out) : J l I pc lv (.long x :: r) M k n out :=
  fun D cA ad p e s m args below meth c A locs H ls h => lv_l2i h.hx h.hb hd rfl (kk D cA ad p e s m args below meth c A locs H ls h)
theorem J.lushr {x : Int64} {y : Int32} {r : List Value} (hd : decode I.cc pc = .ok (.lushr, 1)) (kk : J l I (pc + 1) lv (.long (x.toUInt64 >>> (y.toInt64.toUInt64 &&& Int64.toUInt64 63)).toInt64 :: r) M k n out) : J l I pc lv (.int y :: .long x :: r) M k n out :=
  fun D cA ad p e s m args below meth c A locs H ls h => lv_lushr h.hx h.hb hd rfl (kk D cA ad p e s m args below meth c A locs H ls h)
theorem J.lshl {x : Int64} {y : Int32} {r : List Value} (hd : decode I.cc pc = .ok (.lshl, 1)) (kk : J l I (pc + 1) lv (.long (x <<< (y.toInt64 &&& 63)) :: r) M k n out) : J l I pc lv (.int y :: .long x :: r) M k n out :=
  fun D cA ad p e s m args below meth c A locs H ls h => lv_lshl h.hx h.hb hd rfl (kk D cA ad p e s m args below meth c A locs H ls h)
theorem J.lcmp {x y : Int64} {r : List Value} (hd : decode I.cc pc = .ok (.lcmp, 1)) (kk : J l I (pc + 1) lv (.int (lg_cmp x y) :: r) M k n out) : J l I pc lv (.long y :: .long x :: r) M k n out :=
  fun D cA ad p e s m args below meth c A locs H ls h => W.lcmp h.hx h.hb hd (kk D cA ad p e s m args below meth c A locs H ls h)
theorem J.dup {a : Value} {r : List Value} (hd : decode I.cc pc = .ok (.dup, 1)) (ha : a.category = 1) (kk : J l I (pc + 1) lv (a :: a :: r) M k n out) : J l I pc lv (a :: r) M k n out :=
  fun D cA ad p e s m args below meth c A locs H ls h => lv_dup h.hx h.hb hd ((pv_cat ad a).trans ha) (kk D cA ad p e s m args below meth c A locs H ls h)
theorem J.pop {a : Value} {r : List Value} (hd : decode I.cc pc = .ok (.pop, 1)) (ha : a.category = 1) (kk : J l I (pc + 1) lv (r) M k n out) : J l I pc lv (a :: r) M k n out :=
  fun D cA ad p e s m args below meth c A locs H ls h => lv_pop h.hx h.hb hd ((pv_cat ad a).trans ha) (kk D cA ad p e s m args below meth c A locs H ls h)
theorem J.dup_x1 {a b : Value} {r : List Value} (hd : decode I.cc pc = .ok (.dup_x1, 1)) (ha : a.category = 1) (hb : b.category = 1) (kk : J l I (pc + 1) lv (a :: b :: a :: r) M k n out) : J l I pc lv (a :: b :: r) M k n out :=
  fun D cA ad p e s m args below meth c A locs H ls h => lv_dup_x1 h.hx h.hb hd ((pv_cat ad a).trans ha) ((pv_cat ad b).trans hb) (kk D cA ad p e s m args below meth c A locs H ls h)
theorem J.dup_x2 {a b d : Value} {r : List Value} (hd : decode I.cc pc = .ok (.dup_x2, 1)) (ha : a.category = 1) (hb : b.category = 1) (hc : d.category = 1) (kk : J l I (pc + 1) lv (a :: b :: d :: a :: r) M k n out) : J l I pc lv (a :: b :: d :: r) M k n out :=
  fun D cA ad p e s m args below meth c A locs H ls h => lv_dup_x2 h.hx h.hb hd ((pv_cat ad a).trans ha) ((pv_cat ad b).trans hb) ((pv_cat ad d).trans hc) (kk D cA ad p e s m args below meth c A locs H ls h)
theorem J.dup2 {a b : Value} {r : List Value} (hd : decode I.cc pc = .ok (.dup2, 1)) (ha : a.category = 1) (hb : b.category = 1) (kk : J l I (pc + 1) lv (a :: b :: a :: b :: r) M k n out) : J l I pc lv (a :: b :: r) M k n out :=
  fun D cA ad p e s m args below meth c A locs H ls h => lv_dup2_11 h.hx h.hb hd ((pv_cat ad a).trans ha) ((pv_cat ad b).trans hb) (kk D cA ad p e s m args below meth c A locs H ls h)
theorem J.goto {off : Int} {tgt : Nat} (hd : decode I.cc pc = .ok (.goto off, 3)) (ht : (pc : Int) + off = (tgt : Int)) (kk : J l I tgt lv st M k n out) : J l I pc lv st M k n out :=
  fun D cA ad p e s m args below meth c A locs H ls h => lv_goto h.hx h.hb hd ht (kk D cA ad p e s m args below meth c A locs H ls h)
theorem J.if_eq {x : Int32} {off : Int} {tgt : Nat} {r : List Value} (hd : decode I.cc pc = .ok (.ifCond .eq off, 3)) (ht : (pc : Int) + off = (tgt : Int)) (kt : x = 0 → J l I tgt lv r M k n out) (kf : ¬ x = 0 → J l I (pc + 3) lv r M k n out) : J l I pc lv (.int x :: r) M k n out :=
  fun D cA ad p e s m args below meth c A locs H ls h => lv_if_eq h.hx h.hb hd ht (fun q => kt q D cA ad p e s m args below meth c A locs H ls h) (fun q => kf q D cA ad p e s m args below meth c A locs H ls h)
theorem J.icmp_eq {x y : Int32} {off : Int} {tgt : Nat} {r : List Value} (hd : decode I.cc pc = .ok (.if_icmp .eq off, 3)) (ht : (pc : Int) + off = (tgt : Int)) (kt : x = y → J l I tgt lv r M k n out) (kf : ¬ x = y → J l I (pc + 3) lv r M k n out) : J l I pc lv (.int y :: .int x :: r) M k n out :=
  fun D cA ad p e s m args below meth c A locs H ls h => lv_icmp_eq h.hx h.hb hd ht (fun q => kt q D cA ad p e s m args below meth c A locs H ls h) (fun q => kf q D cA ad p e s m args below meth c A locs H ls h)
theorem J.if_ne {x : Int32} {off : Int} {tgt : Nat} {r : List Value} (hd : decode I.cc pc = .ok (.ifCond .ne off, 3)) (ht : (pc : Int) + off = (tgt : Int)) (kt : ¬ x = 0 → J l I tgt lv r M k n out) (kf : x = 0 → J l I (pc + 3) lv r M k n out) : J l I pc lv (.int x :: r) M k n out :=
  fun D cA ad p e s m args below meth c A locs H ls h => lv_if_ne h.hx h.hb hd ht (fun q => kt q D cA ad p e s m args below meth c A locs H ls h) (fun q => kf q D cA ad p e s m args below meth c A locs H ls h)
theorem J.icmp_ne {x y : Int32} {off : Int} {tgt : Nat} {r : List Value} (hd : decode I.cc pc = .ok (.if_icmp .ne off, 3)) (ht : (pc : Int) + off = (tgt : Int)) (kt : ¬ x = y → J l I tgt lv r M k n out) (kf : x = y → J l I (pc + 3) lv r M k n out) : J l I pc lv (.int y :: .int x :: r) M k n out :=
  fun D cA ad p e s m args below meth c A locs H ls h => lv_icmp_ne h.hx h.hb hd ht (fun q => kt q D cA ad p e s m args below meth c A locs H ls h) (fun q => kf q D cA ad p e s m args below meth c A locs H ls h)
theorem J.if_lt {x : Int32} {off : Int} {tgt : Nat} {r : List Value} (hd : decode I.cc pc = .ok (.ifCond .lt off, 3)) (ht : (pc : Int) + off = (tgt : Int)) (kt : x < 0 → J l I tgt lv r M k n out) (kf : ¬ x < 0 → J l I (pc + 3) lv r M k n out) : J l I pc lv (.int x :: r) M k n out :=
  fun D cA ad p e s m args below meth c A locs H ls h => lv_if_lt h.hx h.hb hd ht (fun q => kt q D cA ad p e s m args below meth c A locs H ls h) (fun q => kf q D cA ad p e s m args below meth c A locs H ls h)
theorem J.icmp_lt {x y : Int32} {off : Int} {tgt : Nat} {r : List Value} (hd : decode I.cc pc = .ok (.if_icmp .lt off, 3)) (ht : (pc : Int) + off = (tgt : Int)) (kt : x < y → J l I tgt lv r M k n out) (kf : ¬ x < y → J l I (pc + 3) lv r M k n out) : J l I pc lv (.int y :: .int x :: r) M k n out :=
  fun D cA ad p e s m args below meth c A locs H ls h => lv_icmp_lt h.hx h.hb hd ht (fun q => kt q D cA ad p e s m args below meth c A locs H ls h) (fun q => kf q D cA ad p e s m args below meth c A locs H ls h)
theorem J.if_ge {x : Int32} {off : Int} {tgt : Nat} {r : List Value} (hd : decode I.cc pc = .ok (.ifCond .ge off, 3)) (ht : (pc : Int) + off = (tgt : Int)) (kt : 0 ≤ x → J l I tgt lv r M k n out) (kf : ¬ 0 ≤ x → J l I (pc + 3) lv r M k n out) : J l I pc lv (.int x :: r) M k n out :=
  fun D cA ad p e s m args below meth c A locs H ls h => lv_if_ge h.hx h.hb hd ht (fun q => kt q D cA ad p e s m args below meth c A locs H ls h) (fun q => kf q D cA ad p e s m args below meth c A locs H ls h)
theorem J.icmp_ge {x y : Int32} {off : Int} {tgt : Nat} {r : List Value} (hd : decode I.cc pc = .ok (.if_icmp .ge off, 3)) (ht : (pc : Int) + off = (tgt : Int)) (kt : y ≤ x → J l I tgt lv r M k n out) (kf : ¬ y ≤ x → J l I (pc + 3) lv r M k n out) : J l I pc lv (.int y :: .int x :: r) M k n out :=
  fun D cA ad p e s m args below meth c A locs H ls h => lv_icmp_ge h.hx h.hb hd ht (fun q => kt q D cA ad p e s m args below meth c A locs H ls h) (fun q => kf q D cA ad p e s m args below meth c A locs H ls h)
theorem J.if_gt {x : Int32} {off : Int} {tgt : Nat} {r : List Value} (hd : decode I.cc pc = .ok (.ifCond .gt off, 3)) (ht : (pc : Int) + off = (tgt : Int)) (kt : 0 < x → J l I tgt lv r M k n out) (kf : ¬ 0 < x → J l I (pc + 3) lv r M k n out) : J l I pc lv (.int x :: r) M k n out :=
  fun D cA ad p e s m args below meth c A locs H ls h => lv_if_gt h.hx h.hb hd ht (fun q => kt q D cA ad p e s m args below meth c A locs H ls h) (fun q => kf q D cA ad p e s m args below meth c A locs H ls h)
theorem J.icmp_gt {x y : Int32} {off : Int} {tgt : Nat} {r : List Value} (hd : decode I.cc pc = .ok (.if_icmp .gt off, 3)) (ht : (pc : Int) + off = (tgt : Int)) (kt : y < x → J l I tgt lv r M k n out) (kf : ¬ y < x → J l I (pc + 3) lv r M k n out) : J l I pc lv (.int y :: .int x :: r) M k n out :=
  fun D cA ad p e s m args below meth c A locs H ls h => lv_icmp_gt h.hx h.hb hd ht (fun q => kt q D cA ad p e s m args below meth c A locs H ls h) (fun q => kf q D cA ad p e s m args below meth c A locs H ls h)
theorem J.if_le {x : Int32} {off : Int} {tgt : Nat} {r : List Value} (hd : decode I.cc pc = .ok (.ifCond .le off, 3)) (ht : (pc : Int) + off = (tgt : Int)) (kt : x ≤ 0 → J l I tgt lv r M k n out) (kf : ¬ x ≤ 0 → J l I (pc + 3) lv r M k n out) : J l I pc lv (.int x :: r) M k n out :=
  fun D cA ad p e s m args below meth c A locs H ls h => lv_if_le h.hx h.hb hd ht (fun q => kt q D cA ad p e s m args below meth c A locs H ls h) (fun q => kf q D cA ad p e s m args below meth c A locs H ls h)
theorem J.icmp_le {x y : Int32} {off : Int} {tgt : Nat} {r : List Value} (hd : decode I.cc pc = .ok (.if_icmp .le off, 3)) (ht : (pc : Int) + off = (tgt : Int)) (kt : x ≤ y → J l I tgt lv r M k n out) (kf : ¬ x ≤ y → J l I (pc + 3) lv r M k n out) : J l I pc lv (.int y :: .int x :: r) M k n out :=
  fun D cA ad p e s m args below meth c A locs H ls h => lv_icmp_le h.hx h.hb hd ht (fun q => kt q D cA ad p e s m args below meth c A locs H ls h) (fun q => kf q D cA ad p e s m args below meth c A locs H ls h)
theorem Cx.hK {D : va_G} {cA ad : Nat → Nat} {p : Program} {s : State} {m : MethodId} {args : Array Value} {meth : Method} {c : Code} {A : Nat → Prop} {locs : List Loc} {H : Heap} {ls : Array Slot} (h : Cx I D cA ad p s m args meth c A locs H ls lv M) : va_K D vwCl (ty3 cA) s := h.2.2.2.2.2.2.2.2.2.1
theorem Cx.hP {D : va_G} {cA ad : Nat → Nat} {p : Program} {s : State} {m : MethodId} {args : Array Value} {meth : Method} {c : Code} {A : Nat → Prop} {locs : List Loc} {H : Heap} {ls : Array Slot} (h : Cx I D cA ad p s m args meth c A locs H ls lv M) : va_P D vwCl (pw ad cA M) H := h.2.2.2.2.2.2.2.2.2.2.1
theorem Cx.hD {D : va_G} {cA ad : Nat → Nat} {p : Program} {s : State} {m : MethodId} {args : Array Value} {meth : Method} {c : Code} {A : Nat → Prop} {locs : List Loc} {H : Heap} {ls : Array Slot} (h : Cx I D cA ad p s m args meth c A locs H ls lv M) : va_D A (pw ad cA M) := h.2.2.2.2.2.2.2.2.2.2.2.1
theorem Cx.hS {D : va_G} {cA ad : Nat → Nat} {p : Program} {s : State} {m : MethodId} {args : Array Value} {meth : Method} {c : Code} {A : Nat → Prop} {locs : List Loc} {H : Heap} {ls : Array Slot} (h : Cx I D cA ad p s m args meth c A locs H ls lv M) : va_S A s.heap H locs := h.2.2.2.2.2.2.2.2.2.2.2.2.1
theorem Cx.hA {D : va_G} {cA ad : Nat → Nat} {p : Program} {s : State} {m : MethodId} {args : Array Value} {meth : Method} {c : Code} {A : Nat → Prop} {locs : List Loc} {H : Heap} {ls : Array Slot} (h : Cx I D cA ad p s m args meth c A locs H ls lv M) : ∀ q, s.heap.size ≤ q → A q := h.2.2.2.2.2.2.2.2.2.2.2.2.2.1.1
theorem Cx.hX {D : va_G} {cA ad : Nat → Nat} {p : Program} {s : State} {m : MethodId} {args : Array Value} {meth : Method} {c : Code} {A : Nat → Prop} {locs : List Loc} {H : Heap} {ls : Array Slot} (h : Cx I D cA ad p s m args meth c A locs H ls lv M) : EX I.ex ad s A := h.2.2.2.2.2.2.2.2.2.2.2.2.2.1.2
theorem Cx.hZ {D : va_G} {cA ad : Nat → Nat} {p : Program} {s : State} {m : MethodId} {args : Array Value} {meth : Method} {c : Code} {A : Nat → Prop} {locs : List Loc} {H : Heap} {ls : Array Slot} (h : Cx I D cA ad p s m args meth c A locs H ls lv M) : ZZ A s s.heap := h.2.2.2.2.2.2.2.2.2.2.2.2.2.2.1
theorem Cx.hw {D : va_G} {cA ad : Nat → Nat} {p : Program} {s : State} {m : MethodId} {args : Array Value} {meth : Method} {c : Code} {A : Nat → Prop} {locs : List Loc} {H : Heap} {ls : Array Slot} (h : Cx I D cA ad p s m args meth c A locs H ls lv M) : NW s := h.2.2.2.2.2.2.2.1
theorem Cx.ho {D : va_G} {cA ad : Nat → Nat} {p : Program} {s : State} {m : MethodId} {args : Array Value} {meth : Method} {c : Code} {A : Nat → Prop} {locs : List Loc} {H : Heap} {ls : Array Slot} (h : Cx I D cA ad p s m args meth c A locs H ls lv M) : s.vm.findClass I.own = some m.cls := h.2.2.2.2.2.2.2.2.1
theorem J.ialoadR {a cell : Nat} {f : Nat → Int32} {i : Int32} {r : List Value} (hd : decode I.cc pc = .ok (.iaload, 1)) (hM : M[a]? = some (.inl (0, cell, .inl f))) (hi : vp_in i cell) (kk : J l I (pc + 1) lv (.int (f i.toNatClampNeg) :: r) M k n out) : J l I pc lv (.int i :: .ref a :: r) M k n out :=
  fun D cA ad p e s m args below meth c A locs H ls h => va_iald h.hx h.hb h.hK h.hP a 0 (pw_at hM) rfl hi hd (kk D cA ad p e s m args below meth c A locs H ls h)
theorem J.baloadR {a cell : Nat} {f : Nat → Int32} {i : Int32} {r : List Value} (hd : decode I.cc pc = .ok (.baload, 1)) (hM : M[a]? = some (.inl (1, cell, .inl f))) (hi : vp_in i cell) (kk : J l I (pc + 1) lv (.int (f i.toNatClampNeg) :: r) M k n out) : J l I pc lv (.int i :: .ref a :: r) M k n out :=
  fun D cA ad p e s m args below meth c A locs H ls h => va_zald h.hx h.hb h.hK h.hP a 1 (pw_at hM) rfl hi hd (kk D cA ad p e s m args below meth c A locs H ls h)
theorem J.laloadR {a cell : Nat} {f : Nat → Int64} {i : Int32} {r : List Value} (hd : decode I.cc pc = .ok (.laload, 1)) (hM : M[a]? = some (.inl (2, cell, .inr (.inl f)))) (hi : vp_in i cell) (kk : J l I (pc + 1) lv (.long (f i.toNatClampNeg) :: r) M k n out) : J l I pc lv (.int i :: .ref a :: r) M k n out :=
  fun D cA ad p e s m args below meth c A locs H ls h => va_lald h.hx h.hb h.hK h.hP a 2 (pw_at hM) rfl hi hd (kk D cA ad p e s m args below meth c A locs H ls h)
theorem jq_len {D : va_G} {cA ad : Nat → Nat} {A : Nat → Prop} {mc ms : Nat} {below : List Frame} {args : Array Value} {s : State} {a : Nat} {e : va_E} : JQ D cA ad (M.set a e).length A mc ms below args s out = JQ D cA ad M.length A mc ms below args s out := by rw [List.length_set]
theorem J.iastoreR {a cell : Nat} {f : Nat → Int32} {i x : Int32} {r : List Value} (hd : decode I.cc pc = .ok (.iastore, 1)) (hM : M[a]? = some (.inl (0, cell, .inl f))) (hi : vp_in i cell) (kk : J l I (pc + 1) lv r (M.set a (.inl (0, cell, .inl (upd f i.toNatClampNeg x)))) k n out) : J l I pc lv (.int x :: .int i :: .ref a :: r) M k n out := by
  intro D cA ad p e s m args below meth c A locs H ls h
  refine va_iast h.hx h.hb h.hK h.hP h.hD h.hS a 0 (pw_at hM) rfl hi hd (fun H1 locs1 hP hD hS => ?_)
  have e1 := pw_set (ad := ad) (cA := cA) (M := M) (k := a) (e := .inl (0, cell, .inl (upd f i.toNatClampNeg x)))
  have := kk D cA ad p e s m args below meth c A locs1 H1 ls (h.hp (e1 ▸ hP) (e1 ▸ hD) hS)
  rw [jq_len] at this
  exact this
theorem J.bastoreR {a cell : Nat} {f : Nat → Int32} {i x : Int32} {r : List Value} (hd : decode I.cc pc = .ok (.bastore, 1)) (hM : M[a]? = some (.inl (1, cell, .inl f))) (hi : vp_in i cell) (kk : J l I (pc + 1) lv r (M.set a (.inl (1, cell, .inl (upd f i.toNatClampNeg (vp_nar .boolean x))))) k n out) : J l I pc lv (.int x :: .int i :: .ref a :: r) M k n out := by
  intro D cA ad p e s m args below meth c A locs H ls h
  refine va_zast h.hx h.hb h.hK h.hP h.hD h.hS a 1 (pw_at hM) rfl hi hd (fun H1 locs1 hP hD hS => ?_)
  have e1 := pw_set (ad := ad) (cA := cA) (M := M) (k := a) (e := .inl (1, cell, .inl (upd f i.toNatClampNeg (vp_nar .boolean x))))
  have := kk D cA ad p e s m args below meth c A locs1 H1 ls (h.hp (e1 ▸ hP) (e1 ▸ hD) hS)
  rw [jq_len] at this
  exact this
theorem J.lastoreR {a cell : Nat} {f : Nat → Int64} {i : Int32} {x : Int64} {r : List Value} (hd : decode I.cc pc = .ok (.lastore, 1)) (hM : M[a]? = some (.inl (2, cell, .inr (.inl f)))) (hi : vp_in i cell) (kk : J l I (pc + 1) lv r (M.set a (.inl (2, cell, .inr (.inl (vp_updL f i.toNatClampNeg x))))) k n out) : J l I pc lv (.long x :: .int i :: .ref a :: r) M k n out := by
  intro D cA ad p e s m args below meth c A locs H ls h
  refine va_last h.hx h.hb h.hK h.hP h.hD h.hS a 2 (pw_at hM) rfl hi hd (fun H1 locs1 hP hD hS => ?_)
  have e1 := pw_set (ad := ad) (cA := cA) (M := M) (k := a) (e := .inl (2, cell, .inr (.inl (vp_updL f i.toNatClampNeg x))))
  have := kk D cA ad p e s m args below meth c A locs1 H1 ls (h.hp (e1 ▸ hP) (e1 ▸ hD) hS)
  rw [jq_len] at this
  exact this
theorem J.arraylength {a t : Nat} {x : vp_A} {v : Int32} {r : List Value} (hd : decode I.cc pc = .ok (.arraylength, 1)) (hM : M[a]? = some (.inl (t, x))) (ht : t < 3) (hv : Int32.ofNat x.1 = v) (kk : J l I (pc + 1) lv (.int v :: r) M k n out) : J l I pc lv (.ref a :: r) M k n out := by
  intro D cA ad p e s m args below meth c A locs H ls h
  have : ∃ ty, (ty3 cA)[t]? = some (cA t, ty) := by
    rcases (show t = 0 ∨ t = 1 ∨ t = 2 by omega) with rfl | rfl | rfl <;> exact ⟨_, rfl⟩
  obtain ⟨ty, ht⟩ := this
  exact va_alen h.hx h.hb h.hK h.hP a t (pw_at hM) ht hv hd (kk D cA ad p e s m args below meth c A locs H ls h)
/-- what a field access links -/
def FL (own : String) (index ci f : Nat) : Prop := ∃ (C : String) (T : u_T) (N : Nat) (ref : String), vwCl[ci]? = some (C, T, N) ∧ f < N ∧ (∀ w ∈ u_ws C T N, w ∈ lw_tbl ∧ okw w = true) ∧ Cond.fieldLink own index ref (T f).2.1 (T f).2.2.1 ∈ lw_tbl ∧ (T f).1 = ref
theorem J.getfield {a index ci f : Nat} {fs : List Value} {v : Value} {r : List Value} (hd : decode I.cc pc = .ok (.getfield index, 3)) (hF : FL I.own index ci f) (hM : M[a]? = some (.inr (ci, fs))) (hv : fs[f]? = some v) (kk : J l I (pc + 3) lv (v :: r) M k n out) : J l I pc lv (.ref a :: r) M k n out := by
  intro D cA ad p e s m args below meth c A locs H ls h
  obtain ⟨C, T, N, ref, h1, h2, h3, h4, h5⟩ := hF
  exact va_get (D := D) (ci := ci) (v := pv ad v) (C := C) (T := T) (N := N) h.hx h.hb (Ts := u_ws C T N) (fun w hw => h.hw.at (h3 w hw).1 (h3 w hw).2 args) (fun w hw => hw) h.ho h.hK h.hP a (pw_at hM) h1 f h2 (h.hw.at h4 rfl args) (fun x hx => by rw [← h5]; exact hx) (by rw [List.getElem?_map, hv]; rfl) hd (kk D cA ad p e s m args below meth c A locs H ls h)
/-- .. and a store -/
def FS (own nm : String) (index ci f : Nat) (ty : FieldType) : Prop := ∃ (C : String) (T : u_T) (N : Nat) (ref : String) (ty0 : Nat → FieldType), vwCl[ci]? = some (C, T, N) ∧ f < N ∧ (∀ w ∈ u_ws C T N, w ∈ lw_tbl ∧ okw w = true) ∧ Cond.fieldLink own index ref (T f).2.1 (T f).2.2.1 ∈ lw_tbl ∧ (T f).1 = ref ∧
  (∀ j, j < N → parseFieldDescriptor (T j).2.2.1 = some (ty0 j)) ∧ (∀ a, a < N → ∀ b, b < N → a ≠ b → (T a).2.1 ≠ (T b).2.1) ∧ ty0 f = ty ∧ ((T f).2.2.2 = false ∨ ((T f).2.2.2 = true ∧ nm = "<init>" ∧ (T f).1 = own))
theorem Cx.hnm {D : va_G} {cA ad : Nat → Nat} {p : Program} {s : State} {m : MethodId} {args : Array Value} {meth : Method} {c : Code} {A : Nat → Prop} {locs : List Loc} {H : Heap} {ls : Array Slot} (h : Cx I D cA ad p s m args meth c A locs H ls lv M) : meth.name = I.nm := h.2.2.2.2.2.1
theorem pv_narrow {ad : Nat → Nat} {ty : FieldType} {v : Value} (h : narrow ty v = v) : narrow ty (pv ad v) = pv ad v := by
  cases v <;> first | exact h | (cases ty <;> first | rfl | simp_all [narrow, pv])
theorem pv_fits {ad : Nat → Nat} {ty : FieldType} {v : Value} (h : fits ty v = true) : fits ty (pv ad v) = true := by
  cases v <;> first | exact h | (cases ty <;> simp_all [fits, pv])
theorem J.putfield {a index ci f : Nat} {ty : FieldType} {fs : List Value} {v : Value} {r : List Value} (hd : decode I.cc pc = .ok (.putfield index, 3)) (hF : FS I.own I.nm index ci f ty) (hM : M[a]? = some (.inr (ci, fs))) (hl : f < fs.length) (hn : narrow ty v = v) (hf : fits ty v = true) (kk : J l I (pc + 3) lv r (M.set a (.inr (ci, fs.set f v))) k n out) : J l I pc lv (v :: .ref a :: r) M k n out := by
  intro D cA ad p e s m args below meth c A locs H ls h
  obtain ⟨C, T, N, ref, ty0, h1, h2, h3, h4, h5, h6, h7, h8, h9⟩ := hF
  have e1 := pw_set (ad := ad) (cA := cA) (M := M) (k := a) (e := .inr (ci, fs.set f v))
  have e2 : pe ad cA (.inr (ci, fs.set f v)) = .inr (ci, (fs.map (pv ad)).set f (pv ad v)) := by simp [pe, List.map_set]
  rw [e2] at e1
  have key : ∀ (H1 : Heap) (locs1 : List Loc), va_P D vwCl ((pw ad cA M).set a (ad a, .inr (ci, (fs.map (pv ad)).set f (pv ad v)))) H1 → va_D A ((pw ad cA M).set a (ad a, .inr (ci, (fs.map (pv ad)).set f (pv ad v)))) → va_S A s.heap H1 locs1 →
      W p l e I.rm s m args below meth c H1 locs1 k n (JQ D cA ad M.length A I.mc I.ms below args s out) (F0 m (pc + 3) ls (r.map (pv ad))) := by
    intro H1 locs1 hP hD hS
    have := kk D cA ad p e s m args below meth c A locs1 H1 ls (h.hp (e1 ▸ hP) (e1 ▸ hD) hS)
    rw [jq_len] at this
    exact this
  rcases h9 with h9 | ⟨h9, h10, h11⟩
  · exact va_put (D := D) (ci := ci) (v := pv ad v) (ty := ty) (C := C) (T := T) (N := N) h.hx h.hb (Ts := u_ws C T N) (fun w hw => h.hw.at (h3 w hw).1 (h3 w hw).2 args) (fun w hw => hw) ty0 h6 h7 h.ho h.hK h.hP h.hD h.hS a (pw_at hM) h1 f h2 (h.hw.at h4 rfl args) (fun x hx => by rw [← h5]; exact hx) h9 (by rw [h6 f h2, h8]) (pv_narrow hn) (pv_fits hf) (by rw [List.length_map]; exact hl) hd key
  · exact va_putF (D := D) (ci := ci) (v := pv ad v) (ty := ty) (C := C) (T := T) (N := N) h.hx h.hb (Ts := u_ws C T N) (fun w hw => h.hw.at (h3 w hw).1 (h3 w hw).2 args) (fun w hw => hw) ty0 h6 h7 h.ho h.hK h.hP h.hD h.hS a (pw_at hM) h1 f h2 (h.hw.at h4 rfl args) (fun x hx => by rw [← h5]; exact hx) h9 (h.hnm.trans h10) h11 (by rw [h6 f h2, h8]) (pv_narrow hn) (pv_fits hf) (by rw [List.length_map]; exact hl) hd key
/-- ends -/
theorem Qr.mk' {D : va_G} {cA ad : Nat → Nat} {p : Program} {s : State} {m : MethodId} {args : Array Value} {meth : Method} {c : Code} {A : Nat → Prop} {locs : List Loc} {H : Heap} {ls : Array Slot} {e : Env} {below : List Frame} {v : Option Value} (h : Cx I D cA ad p s m args meth c A locs H ls lv M) (t : State) (ht : t.heap = H) (hW : s.WarmedH t.vm) : Qr D cA ad M.length A (v, M) args s (.returned (v.map (pv ad))) t :=
  ⟨⟨ad, fun _ _ => rfl, fun _ => rfl, Nat.le_refl _, rfl, by rw [ht]; exact h.hP, va_K.moved hW.alike h.hK, h.hD⟩, h.hS.F ht⟩
theorem J.ireturn {v : Int32} (hd : decode I.cc pc = .ok (.ireturn, 1)) (hr : I.ret = some .int) (hk : k ≤ I.mc) (hn : n ≤ I.ms) : J l I pc lv [.int v] M k n (.inl (some (.int v), M)) := by
  intro D cA ad p e s m args below meth c A locs H ls h
  refine W.widen hk hn ?_
  exact W.iret h.hx h.hb (h.2.2.2.1.trans hr) (fun t ht hW => Qr.mk' (e := e) (below := below) (v := some (.int v)) h t ht hW) h.hS.2.2 hd h.2.2.2.2.1
theorem J.zreturn {v : Int32} (hd : decode I.cc pc = .ok (.ireturn, 1)) (hr : I.ret = some .boolean) (hv : narrow .boolean (.int v) = .int v) (hk : k ≤ I.mc) (hn : n ≤ I.ms) : J l I pc lv [.int v] M k n (.inl (some (.int v), M)) := by
  intro D cA ad p e s m args below meth c A locs H ls h
  refine W.widen hk hn ?_
  exact W.zret h.hx h.hb (h.2.2.2.1.trans hr) hv (fun t ht hW => Qr.mk' (e := e) (below := below) (v := some (.int v)) h t ht hW) h.hS.2.2 hd h.2.2.2.2.1
theorem J.vreturn (hd : decode I.cc pc = .ok (.return_, 1)) (hr : I.ret = none) (hk : k ≤ I.mc) (hn : n ≤ I.ms) : J l I pc lv [] M k n (.inl (none, M)) := by
  intro D cA ad p e s m args below meth c A locs H ls h
  refine W.widen hk hn ?_
  exact W.vret h.hx h.hb (h.2.2.2.1.trans hr) (fun t ht hW => Qr.mk' (e := e) (below := below) (v := none) h t ht hW) h.hS.2.2 hd h.2.2.2.2.1
end RULES
