section CALLS
variable {l : Launch} {I I' : MI} {pc : Nat} {lv : List (Nat × Value)} {M : List va_E} {k n : Nat} {out : Out}
/-- what a callee may change is what the caller may -/
theorem free_in {D : va_G} {cA ad : Nat → Nat} {p : Program} {s : State} {m : MethodId} {args : Array Value} {meth : Method} {c : Code} {A : Nat → Prop} {locs : List Loc} {H : Heap} {ls : Array Slot} (h : Cx I D cA ad p s m args meth c A locs H ls lv M) : ∀ q, va_A (pw ad cA M) H.size q → A q := by
  intro q hq
  rcases hq with ⟨j, e, hj⟩ | hq
  · exact h.hD.2 j (q, e) hj
  · exact h.hA q (Nat.le_trans h.hS.1 hq)
theorem ZZ_here {D : va_G} {cA ad : Nat → Nat} {p : Program} {s : State} {m : MethodId} {args : Array Value} {meth : Method} {c : Code} {A : Nat → Prop} {locs : List Loc} {H : Heap} {ls : Array Slot} (h : Cx I D cA ad p s m args meth c A locs H ls lv M) : ZZ (va_A (pw ad cA M) H.size) s H :=
  (h.hZ.kept h.hS.1 h.hS.2.1).narrow (fun q _ hq => free_in h q hq)
theorem EX_here {D : va_G} {cA ad : Nat → Nat} {p : Program} {s : State} {m : MethodId} {args : Array Value} {meth : Method} {c : Code} {A : Nat → Prop} {locs : List Loc} {H : Heap} {ls : Array Slot} (h : Cx I D cA ad p s m args meth c A locs H ls lv M) {x : EXT} (hx : x = none ∨ x = I.ex) {U : State} (hU : U.heap = H) (hW : s.WarmedH U.vm) : EX x ad U (va_A (pw ad cA M) H.size) := by
  have h1 := h.hX
  rcases hx with rfl | hx
  · trivial
  · rw [← hx] at h1
    cases x with
    | none => trivial
    | some x =>
      obtain ⟨z1, z2, z3⟩ := h1
      refine ⟨?_, by rw [hU]; exact Nat.lt_of_lt_of_le z2 h.hS.1, fun z => z3 (free_in h _ z)⟩
      rw [hU]
      exact (va_X.moved hW.alike z1).kept (h.hS.2.1 _ z2 z3)
/-- the start of a callee, from here -/
theorem Ps_here {D : va_G} {cA ad : Nat → Nat} {p : Program} {s : State} {m : MethodId} {args : Array Value} {meth : Method} {c : Code} {A : Nat → Prop} {locs : List Loc} {H : Heap} {ls : Array Slot} (h : Cx I D cA ad p s m args meth c A locs H ls lv M) (as : List Value) (x : EXT) (hx : x = none ∨ x = I.ex) :
    FrameBlind (Ps x D cA ad as M H.size) ∧ ∀ U : State, U.heap = H → s.WarmedH U.vm → Ps x D cA ad as M H.size (as.map (pv ad)).toArray U := by
  refine ⟨fun a U g mk q => ?_, fun U hU hW => ⟨rfl, by rw [hU], by rw [hU]; exact h.hP, va_K.moved hW.alike h.hK, h.hD.weaken (fun _ _ _ _ => trivial), by rw [hU]; exact (ZZ_here h).moved hW.alike, h.hw.moved hW, EX_here h hx hU hW⟩⟩
  obtain ⟨q0, q1, qP, qK, qD, qZ, qN, qX⟩ := q
  exact ⟨q0, q1, qP, va_K.moved (u := U) (U := U.calling g mk a) (Vm.Alike.refl U.vm) qK, qD, qZ.moved (U := U.calling g mk a) (Vm.Alike.refl U.vm), qN.moved (U := U.calling g mk a) (State.WarmedH.refl U), qX.moved (U := U.calling g mk a) (Vm.Alike.refl U.vm) rfl⟩
/-- behind a call that returned -/
theorem J.behind {rest : List Value} {r : Option Value} {M' : List va_E} {st0 : List Value}
    (hr : ∀ (D : va_G) (cA ad : Nat → Nat) (p : Program) (e : Env) (s : State) (m : MethodId) (args : Array Value) (below : List Frame) (meth : Method) (c : Code) (A : Nat → Prop) (locs : List Loc) (H : Heap) (ls : Array Slot), Cx I D cA ad p s m args meth c A locs H ls lv M →
      ∃ a, va_Run p l e I.rm s m args below meth c H locs k n I'.mc I'.ms (F0 m pc ls (st0.map (pv ad))) (rest.map (pv ad)) (Qr D cA ad M.length (va_A (pw ad cA M) H.size) (r, M') a) (va_A (pw ad cA M) H.size))
    (hok : M'.length = M.length ∨ (M.length ≤ M'.length ∧ lv.all (fun q => pkl M.length q.2) = true ∧ (rest.all (pkl M.length) && decide (M'.length ≤ 1000)) = true))
    (kk : J l I (pc + 3) lv (r.toList ++ rest) M' (k + I'.mc) (n + I'.ms) out) : J l I pc lv st0 M k n out := by
  intro D cA ad p e s m args below meth c A locs H ls h T hT X
  obtain ⟨a, hrun⟩ := hr D cA ad p e s m args below meth c A locs H ls h
  obtain ⟨v, st₀, t, T', L, h0, X', hL, e1, e2, ⟨⟨ad', g1, g2, g3, g4, g5, g6, g7⟩, hF⟩, st⟩ := hrun T hT X
  have hfr := free_in h
  rw [← e1] at g5
  have hSz : H.size ≤ T'.heap.size := by rw [e1, ← h0]; exact hF.1
  have hk1 : ∀ q : Nat, q < H.size → ¬ A q → T'.heap[q]? = H[q]? := by
    intro q g h9
    rw [e1, ← h0]
    exact hF.2 q (by rw [h0]; exact g) (fun z => h9 (hfr q z))
  have hS' : va_S A s.heap T'.heap (locs ++ L) := by
    refine ⟨Nat.le_trans h.hS.1 hSz, fun q h1 h2 => (hk1 q (Nat.lt_of_lt_of_le h1 h.hS.1) h2).trans (h.hS.2.1 q h1 h2), fun q hq => ?_⟩
    rcases List.mem_append.mp hq with z | z
    · exact h.hS.2.2 q z
    · exact hfr _ (hL q z)
  have hD' : va_D A (pw ad' cA M') := g7.weaken (fun j q _ hq => hfr _ hq)
  have hv : v = r.map (pv ad') := Outcome.returned.inj g4
  have h1000 : ad' 1000 = ad 1000 := by
    rcases hok with ho | ⟨-, -, hp⟩
    · rw [g2 ho]
    · simp only [Bool.and_eq_true, decide_eq_true_eq] at hp
      exact g1 1000 (Or.inr hp.2)
  have key : lv.map (fun q => (q.1, pv ad' q.2)) = lv.map (fun q => (q.1, pv ad q.2)) ∧ rest.map (pv ad') = rest.map (pv ad) := by
    rcases hok with ho | ⟨-, ho, hp⟩
    · rw [g2 ho]; exact ⟨rfl, rfl⟩
    · simp only [Bool.and_eq_true, decide_eq_true_eq] at hp
      refine ⟨List.map_congr_left fun q hq => ?_, pv_eqXL g1 hp.2 hp.1⟩
      rw [pv_eqX g1 hp.2 (List.all_eq_true.mp ho q hq)]
  obtain ⟨a1, a2, a3, a4, a5, a6, a7, a8, a9, a10, -, -, -, a14, a15, a16⟩ := h
  have hCx : Cx I D cA ad' p s m args meth c A (locs ++ L) T'.heap ls lv M' := ⟨a1, a2, a3, a4, a5, a6, a7, a8, a9, a10, g5, hD', hS', ⟨a14.1, a14.2.ad h1000⟩, a15, by rw [key.1]; exact a16⟩
  obtain ⟨t2, b1, b2⟩ := kk D cA ad' p e s m args below meth c A (locs ++ L) T'.heap ls hCx T' rfl X'
  refine ⟨t2, st t2 ?_, ?_⟩
  · have : ((r.toList ++ rest).map (pv ad')) = v.toList ++ rest.map (pv ad) := by
      rw [List.map_append, key.2, hv]; cases r <;> rfl
    rw [this] at b1
    exact b1
  · cases out with
    | inl r2 =>
      obtain ⟨o, c1, c2, ⟨⟨ad2, d1, d2, d3, d4⟩, c4⟩, c5⟩ := b2
      refine ⟨o, c1, c2, ⟨⟨ad2, fun i hi => (d1 i (hi.imp (fun z => Nat.lt_of_lt_of_le z g3) id)).trans (g1 i (hi.imp id (fun z => Nat.le_trans d3 z))), fun hz => ?_, Nat.le_trans g3 d3, d4⟩, c4⟩, c5⟩
      have : M'.length = M.length := Nat.le_antisymm (Nat.le_trans d3 (Nat.le_of_eq hz)) g3
      rw [d2 (hz.trans this.symm), g2 this]
    | inr r2 =>
      obtain ⟨o, c1, c2, ⟨ad2, d1, d2, d3, d4⟩, c4⟩ := b2
      refine ⟨o, c1, c2, ⟨ad2, fun i hi => (d1 i (Nat.lt_of_lt_of_le hi g3)).trans (g1 i (Or.inl hi)), fun hz => ?_, Nat.le_trans g3 d3, d4⟩, c4⟩
      have : M'.length = M.length := Nat.le_antisymm (Nat.le_trans d3 (Nat.le_of_eq hz)) g3
      rw [d2 (hz.trans this.symm), g2 this]
/-- what a call links: the callee's own words, its room within the caller's -/
def CB (I I' : MI) (na : Nat) : Prop := (I'.rm.cells = I'.mc ∧ (I'.ex = none ∨ I'.ex = I.ex)) ∧ I'.rm.slots = I'.ms ∧ I'.rm.frames + 1 ≤ I.rm.frames ∧ 8 + (I'.nL + 11) + I'.rm.locals ≤ I.rm.locals ∧ I'.ws = [Cond.code I'.y I'.cc I'.nL I'.ret] ∧ Cond.code I'.y I'.cc I'.nL I'.ret ∈ lw_tbl ∧ Cond.initialized I'.y.cls ∈ lw_tbl ∧ (I'.y.cls ≠ "java/lang/invoke/MethodHandle" ∧ I'.y.cls ≠ "java/lang/invoke/VarHandle") ∧ (parseMethodDescriptor I'.y.desc).map (fun d => d.parameters.length) = some na
theorem CB.ws {na : Nat} (h : CB I I' na) {s : State} (hN : NW s) : ∀ w ∈ I'.ws, ∀ (a' : Array Value) (U : State), s.WarmedH U.vm → w.before a' U = true := by
  intro w hw a' U hW
  rw [h.2.2.2.2.1, List.mem_singleton] at hw
  subst hw
  exact hN.1 U a' hW _ h.2.2.2.2.2.1 rfl
theorem CB.arity {na : Nat} (h : CB I I' na) : ∀ sig, parseMethodDescriptor I'.y.desc = some sig → na = sig.parameters.length := by
  intro sig hs
  have := h.2.2.2.2.2.2.2.2
  rw [hs] at this
  exact (Option.some.inj this).symm
theorem CB.mem {na : Nat} (h : CB I I' na) : Cond.code I'.y I'.cc I'.nL I'.ret ∈ I'.ws := by rw [h.2.2.2.2.1]; exact List.mem_singleton_self _
theorem CB.to {na index : Nat} (h : CB I I' na) {s : State} (hN : NW s) (args : Array Value) (hl : Cond.methodLink I.own index I'.y ∈ lw_tbl) : CallB I.rm s args I.own index I'.y I'.cc I'.nL I'.ret I'.ws I'.rm I'.mc I'.ms na :=
  ⟨h.1.1, h.2.1, h.2.2.1, h.2.2.2.1, h.ws hN, h.mem, hN.at h.2.2.2.2.2.1 rfl args, hN.at h.2.2.2.2.2.2.1 rfl args, h.2.2.2.2.2.2.2.1, h.arity, hN.at hl rfl args⟩
def CallV (I I' : MI) (C : String) (index : Nat) (na : Nat) : Prop := CB I I' na ∧ Cond.methodLink I.own index I'.y ∈ lw_tbl ∧ Cond.instanceMethod I'.y ∈ lw_tbl ∧ Cond.selects C I'.y I'.y ∈ lw_tbl
def CallS (I I' : MI) (index : Nat) (na : Nat) : Prop := CB I I' na ∧ Cond.methodLink I.own index I'.y ∈ lw_tbl ∧ Cond.static I'.y ∈ lw_tbl
def CallSN (I I' : MI) (index : Nat) (na : Nat) (host : String) : Prop := CB I I' na ∧ Cond.methodLinkNest I.own index I'.y host ∈ lw_tbl ∧ Cond.static I'.y ∈ lw_tbl
def CallI (I I' : MI) (index : Nat) (na : Nat) : Prop := CB I I' na ∧ Cond.methodLink I.own index I'.y ∈ lw_tbl ∧ I'.y.name = "<init>" ∧ Cond.instanceMethod I'.y ∈ lw_tbl ∧ I'.ret = none
/-- words under a call -/
def wsum (r : List Value) : Nat := (r.map fun v => v.category).sum
theorem wsum_pv (ad : Nat → Nat) (r : List Value) : ((r.map (pv ad)).map fun v => v.category).sum = wsum r := by
  unfold wsum
  rw [List.map_map]
  congr 1
  exact List.map_congr_left fun v _ => pv_cat ad v
theorem map_rev (ad : Nat → Nat) (as rest : List Value) : (as.reverse ++ rest).map (pv ad) = (as.map (pv ad)).reverse ++ rest.map (pv ad) := by simp
theorem J.invokestatic {index na : Nat} {as rest : List Value} {r : Option Value} {M' : List va_E} (hC : Con l I' as M (.inl (r, M'))) (hc : CallS I I' index na) (hd : decode I.cc pc = .ok (.invokestatic index, 3)) (hna : as.length = na) (hw : wsum rest ≤ 8) (hf : k + I'.mc ≤ I.rm.cells ∧ n + I'.ms ≤ I.rm.slots)
    (hok : M'.length = M.length ∨ (M.length ≤ M'.length ∧ lv.all (fun q => pkl M.length q.2) = true ∧ (rest.all (pkl M.length) && decide (M'.length ≤ 1000)) = true))
    (kk : J l I (pc + 3) lv (r.toList ++ rest) M' (k + I'.mc) (n + I'.ms) out) : J l I pc lv (as.reverse ++ rest) M k n out := by
  refine J.behind (I' := I') (rest := rest) (r := r) (M' := M') (fun D cA ad p e s m args below meth c A locs H ls h => ⟨(as.map (pv ad)).toArray, ?_⟩) hok kk
  exact va_runS (As := as.map (pv ad)) (rest := rest.map (pv ad)) (Ts := []) ⟨h.hx, h.hb, h.2.2.1, h.ho, fun _ hw => nomatch hw⟩ (hC D cA ad H.size) ⟨hc.1.to h.hw args hc.2.1, h.hw.at hc.2.2 rfl args⟩ (Ps_here h as I'.ex hc.1.1.2) rfl (by rw [List.length_map]; exact hna) h.hl.1 (map_rev ad as rest) (by show 2 * 0 + _ ≤ 8; rw [wsum_pv]; omega) hd hf
theorem J.invokestaticN {index na : Nat} {host : String} {as rest : List Value} {r : Option Value} {M' : List va_E} (hC : Con l I' as M (.inl (r, M'))) (hc : CallSN I I' index na host) (hd : decode I.cc pc = .ok (.invokestatic index, 3)) (hna : as.length = na) (hw : wsum rest ≤ 8) (hf : k + I'.mc ≤ I.rm.cells ∧ n + I'.ms ≤ I.rm.slots)
    (hok : M'.length = M.length ∨ (M.length ≤ M'.length ∧ lv.all (fun q => pkl M.length q.2) = true ∧ (rest.all (pkl M.length) && decide (M'.length ≤ 1000)) = true))
    (kk : J l I (pc + 3) lv (r.toList ++ rest) M' (k + I'.mc) (n + I'.ms) out) : J l I pc lv (as.reverse ++ rest) M k n out := by
  refine J.behind (I' := I') (rest := rest) (r := r) (M' := M') (fun D cA ad p e s m args below meth c A locs H ls h => ⟨(as.map (pv ad)).toArray, ?_⟩) hok kk
  have hb := hc.1
  exact va_runSN (As := as.map (pv ad)) (rest := rest.map (pv ad)) (host := host) (Ts := []) ⟨h.hx, h.hb, h.2.2.1, h.ho, fun _ hw => nomatch hw⟩ (hC D cA ad H.size) ⟨⟨⟨hb.1.1, hb.2.1, hb.2.2.1, hb.2.2.2.1, hb.ws h.hw, hb.mem⟩, h.hw.at hb.2.2.2.2.2.1 rfl args, h.hw.at hb.2.2.2.2.2.2.1 rfl args, hb.2.2.2.2.2.2.2.1, hb.arity, h.hw.at hc.2.1 rfl args⟩, h.hw.at hc.2.2 rfl args, trivial⟩ (Ps_here h as I'.ex hc.1.1.2) rfl (by rw [List.length_map]; exact hna) h.hl.1 (map_rev ad as rest) (by show 2 * 0 + _ ≤ 8; rw [wsum_pv]; omega) hd hf
theorem J.invokevirtual {index na b ci : Nat} {fs : List Value} {C : String} {T : u_T} {N : Nat} {as rest : List Value} {r : Option Value} {M' : List va_E} (hC : Con l I' (.ref b :: as) M (.inl (r, M'))) (hc : CallV I I' C index na) (hd : decode I.cc pc = .ok (.invokevirtual index, 3)) (hM : M[b]? = some (.inr (ci, fs))) (hcl : vwCl[ci]? = some (C, T, N)) (hna : as.length = na) (hw : wsum rest ≤ 8) (hf : k + I'.mc ≤ I.rm.cells ∧ n + I'.ms ≤ I.rm.slots)
    (hok : M'.length = M.length ∨ (M.length ≤ M'.length ∧ lv.all (fun q => pkl M.length q.2) = true ∧ (rest.all (pkl M.length) && decide (M'.length ≤ 1000)) = true))
    (kk : J l I (pc + 3) lv (r.toList ++ rest) M' (k + I'.mc) (n + I'.ms) out) : J l I pc lv (as.reverse ++ .ref b :: rest) M k n out := by
  refine J.behind (I' := I') (rest := rest) (r := r) (M' := M') (fun D cA ad p e s m args below meth c A locs H ls h => ⟨((Value.ref b :: as).map (pv ad)).toArray, ?_⟩) hok kk
  obtain ⟨p1, p2⟩ := Ps_here h (.ref b :: as) I'.ex hc.1.1.2
  exact va_runV (As := as.map (pv ad)) (rest := rest.map (pv ad)) (b := ad b) (C := C) (Ts := []) ⟨h.hx, h.hb, h.2.2.1, h.ho, fun _ hw => nomatch hw⟩ (hC D cA ad H.size) ⟨hc.1.to h.hw args hc.2.1, h.hw.at hc.2.2.1 rfl args, h.hw.at hc.2.2.2 rfl args⟩ ⟨p1, va_recv h.hK h.hP hcl (pw_at hM), p2⟩ rfl (by rw [List.length_map]; exact hna) h.hl.1 (map_rev ad as (.ref b :: rest)) (by show 2 * 0 + _ ≤ 8; rw [wsum_pv]; omega) hd hf
theorem J.invokespecial {index na b : Nat} {as rest : List Value} {r : Option Value} {M' : List va_E} (hC : Con l I' (.ref b :: as) M (.inl (r, M'))) (hc : CallI I I' index na) (hd : decode I.cc pc = .ok (.invokespecial index, 3)) (hna : as.length = na) (hw : wsum rest ≤ 8) (hf : k + I'.mc ≤ I.rm.cells ∧ n + I'.ms ≤ I.rm.slots)
    (hok : M'.length = M.length ∨ (M.length ≤ M'.length ∧ lv.all (fun q => pkl M.length q.2) = true ∧ (rest.all (pkl M.length) && decide (M'.length ≤ 1000)) = true))
    (kk : J l I (pc + 3) lv (r.toList ++ rest) M' (k + I'.mc) (n + I'.ms) out) : J l I pc lv (as.reverse ++ .ref b :: rest) M k n out := by
  refine J.behind (I' := I') (rest := rest) (r := r) (M' := M') (fun D cA ad p e s m args below meth c A locs H ls h => ⟨((Value.ref b :: as).map (pv ad)).toArray, ?_⟩) hok kk
  obtain ⟨p1, p2⟩ := Ps_here h (.ref b :: as) I'.ex hc.1.1.2
  exact va_runI (As := as.map (pv ad)) (rest := rest.map (pv ad)) (b := ad b) (Ts := []) ⟨h.hx, h.hb, h.2.2.1, h.ho, fun _ hw => nomatch hw⟩ (hC D cA ad H.size) ⟨hc.2.2.2.2 ▸ hc.1.to h.hw args hc.2.1, hc.2.2.1, h.hw.at hc.2.2.2.1 rfl args⟩ ⟨p1, p2⟩ rfl (by rw [List.length_map]; exact hna) h.hl.1 (map_rev ad as (.ref b :: rest)) (by show 2 * 0 + _ ≤ 8; rw [wsum_pv]; omega) hd hf
theorem args_map (ad : Nat → Nat) : ∀ (as : List Value) (i : Nat), lv_args i (as.map (pv ad)) = (lv_args i as).map (fun q => (q.1, pv ad q.2))
  | [], _ => rfl
  | v :: vs, i => by
    simp only [List.map_cons, lv_args, pv_cat]
    rw [args_map ad vs]
theorem sl_len (ad : Nat → Nat) : ∀ (as : List Value), (lg_sl (as.map (pv ad))).length = (lg_sl as).length
  | [] => rfl
  | v :: vs => by
    have ih := sl_len ad vs
    simp only [lg_sl, List.map_cons, List.flatMap_cons, List.length_append, pv_cat] at ih ⊢
    rw [ih]
    split <;> rfl
/-- a method's body begins -/
theorem Cx.begin {as : List Value} {cc : ByteArray} {maxL : Nat} {ret : Option FieldType} {S : Spec} (hS0 : S = headSpec I.ws I.rm) (hc1 : cc = I.cc) (hc2 : maxL = I.nL) (hc3 : ret = I.ret) (hw : I.ws = [Cond.code I.y I.cc I.nL I.ret]) (ho : I.own = I.y.cls) (hnm : I.nm = I.y.name) (htab : I.tab = []) (hlen : (lg_sl as).length ≤ I.nL)
    {D : va_G} {cA ad : Nat → Nat} {sz : Nat} {p : Program} {e : Env} {s : State} {m : MethodId} {args : Array Value} {below : List Frame} {meth : Method} {c : Code} {s₁ : State} (B : BodyLoose p l I.y S cc maxL ret e s m args below meth c s₁) (hml : c.maxLocals = maxL) (hv : Ps I.ex D cA ad as M sz args s) :
    ∃ ls, entryFrame m args maxL = F0 m 0 ls [] ∧ Cx I D cA ad p s m args meth c (va_A (pw ad cA M) sz) [] s.heap ls (lv_args 0 as) M := by
  subst hc1 hc2 hc3 hS0
  obtain ⟨hargs, hsz, hP, hK, hD0, hZ, hN, hX⟩ := hv
  have hts := atoms_spec (ws := I.ws) B.pre
  have htb : c.exceptionTable.toList = [] := by
    obtain ⟨meth9, c9, h1, h2, -, -, -, -, h7, -⟩ := Cond.code_spec B.named (hts _ (by rw [hw]; exact List.mem_cons_self))
    cases Option.some.inj (h1.symm.trans B.method)
    cases Option.some.inj (h2.symm.trans (Stand.of_body B).code)
    rw [Array.isEmpty_iff.mp h7]
  have hl := lv_entry (as.map (pv ad)) (n := I.nL) (by rw [sl_len]; exact hlen)
  rw [args_map] at hl
  refine ⟨_, by rw [hargs]; exact lg_entry_eq _ _ _, B.exec, B.bytes, hml, B.returns, B.notSynchronized, ?_, htb.trans htab.symm, hN, ?_, hK, hP, ?_, va_S.rf, ⟨?_, hX⟩, ?_, hl⟩
  · rw [hnm]; exact (name_of_methodNamed B.named B.method).1
  · rw [ho]; exact findClass_of_methodNamed B.named
  · exact hD0.self
  · intro q hq; rw [← hsz]; exact Or.inr hq
  · exact hZ
/-- a contract out of a walk -/
theorem Con.ofJ {as : List Value} (hy : plainName I.y.cls = true) (hw : I.ws = [Cond.code I.y I.cc I.nL I.ret]) (ho : I.own = I.y.cls) (hnm : I.nm = I.y.name) (htab : I.tab = []) (hlen : (lg_sl as).length ≤ I.nL)
    (hJ : J l I 0 (lv_args 0 as) [] M 0 0 out) : Con l I as M out := by
  cases out with
  | inl r =>
    intro D cA ad sz
    refine Met.ofW (cc := I.cc) (maxL := I.nL) (ret := I.ret) hy hw ?_
    intro p e s m args below meth c s₁ B hml hv
    obtain ⟨ls, e1, hCx⟩ := Cx.begin rfl rfl rfl rfl hw ho hnm htab hlen B hml hv
    rw [e1]
    exact hJ D cA ad p e s m args below meth c _ [] s.heap ls hCx
  | inr r =>
    intro D cA ad sz
    refine MetFree.of_bodyS (code := I.cc) (maxLocals := I.nL) (ret := I.ret) hy ?_ ?_
    · intro args s m h hn
      obtain ⟨meth, c, h1, h2, h3, h4, h5, h6, -, -⟩ := Cond.code_spec hn (atoms_spec (ws := I.ws) h _ (by rw [hw]; exact List.mem_cons_self))
      exact ⟨meth, c, h1, h2, h3, h4, h5, h6⟩
    · intro p e s m args below meth c s₁ B hml hv _
      obtain ⟨ls, e1, hCx⟩ := Cx.begin rfl rfl rfl rfl hw ho hnm htab hlen B hml hv
      have hh0 : s₁.heap = s.heap := by rw [B.state]; rfl
      obtain ⟨t, a1, o, b1, b2, b3⟩ := hJ D cA ad p e s m args below meth c _ [] s.heap ls hCx s₁ hh0 (Stand.of_body B)
      rw [e1]
      exact ⟨t, o, a1, b1, b2, b3⟩
end CALLS
