/-! A throw that the method itself catches -/
section CATCH
/-- a row of the table that covers the place and links to a class: taken if the thrown one fits, else passed, the link noted both times -/
theorem fh_row {e : Env} {S : State} {f : JFrame} {a : Addr} {x : ExceptionTableEntry} {t : List ExceptionTableEntry} {c : ClassId} {ce : Cell} {Q : Handler → Pre} {E : CtlPost} {d : Bool} {acts : List Action}
    (hx : covers x f.pc = true) (h0 : x.catchType ≠ 0) (hl : S.vm.ClassLinks e.platform f.method.cls x.catchType c) (hce : S.heap[a]? = some ce) (hv : ce.vm = .none) (h1 : ∃ k, S.vm.classes[ce.cls]? = some k) :
    wp (findHandler.go f a (x :: t)) Q E e d acts S ↔ if S.vm.assignable ce.cls c = true then Q (.found x.handlerPc) d acts (S.setVm (S.vm.noted f.method.cls x.catchType (.cls c))) else wp (findHandler.go f a t) Q E e d acts (S.setVm (S.vm.noted f.method.cls x.catchType (.cls c))) := by
  unfold covers at hx
  have hob : ∀ k, ce.vm ≠ .statics k := fun k z => by rw [hv] at z; cases z
  have hA : S.vm.Alike (S.vm.noted f.method.cls x.catchType (.cls c)) := (Vm.Alike.refl S.vm).noted _ _ _
  have two := (resolveClass_links e.toSetting hl).op (op := VmOp.resolveClass f.method.cls x.catchType) rfl
  obtain ⟨k1, z1⟩ := h1
  obtain ⟨-, -, -, k2, -, -, -, -, -, z2, -, -⟩ := hl.here
  obtain ⟨k1', z1', -⟩ := hA.2.2 _ _ z1
  obtain ⟨k2', z2', -⟩ := hA.2.2 _ _ z2
  have hE := hA.assignable ce.cls c
  by_cases hfit : S.vm.assignable ce.cls c = true
  · rw [if_pos hfit]
    rw [hfit] at hE
    simp [findHandler.go, hx, h0, two.1, two.2, hce, hob, z1', z2', hE, VmOp.dirties, VmOp.acts]
  · rw [if_neg hfit]
    rw [Bool.not_eq_true] at hfit
    rw [hfit] at hE
    simp [findHandler.go, hx, h0, two.1, two.2, hce, hob, z1', z2', hE, VmOp.dirties, VmOp.acts]
/-- the search ends at a handler, with other notes in the tables -/
def fd_to (e : Env) (s : State) (f : JFrame) (a : Addr) (pc : Nat) (vm' : Vm) : Prop :=
  ∀ (Q : Handler → Pre) (E : CtlPost) (d : Bool) (acts : List Action), wp (findHandler f a) Q E e d acts s ↔ Q (.found pc) d acts (s.setVm vm')
theorem st_to {e : Env} {s : State} {a : Addr} {f : JFrame} {r : List Frame} {pc : Nat} {vm' : Vm} (hfind : fd_to e s f a pc vm') :
    (stepThrowing e s a (.java f :: r)).Is ((s.setVm vm').setFrames (.java { f with pc := pc, stack := [.ref a] } :: r)) [] := by
  simp only [stepThrowing, searchFrame, vmDo]
  generalize hr : Sem.go _ e false [] s = res
  obtain ⟨as, rfl, ha⟩ := Sem.eq_ok_of hr (a := Handler.found pc) (s' := s.setVm vm') (acts' := []) (by simp [hfind _ _ _ _])
  exact ⟨rfl, ha⟩
theorem steps_to {tb : Tables} {e : Env} {s target : State} {g : JFrame} {c : Code} {below : List Frame} {a : Addr} (h : At s g.method c below) {pc : Nat} {vm' : Vm} (hfind : fd_to e ((s.setTop g).pushFrame (.throwing a)) g a pc vm')
    (hrest : Steps tb e below ((s.setVm vm').setTop { g with pc := pc, stack := [.ref a] }) target) :
    Steps tb e below ((s.setTop g).pushFrame (.throwing a)) target := by
  obtain ⟨hgo, hw⟩ := h.throwing a
  refine Steps.head hgo hw ?_
  rw [stepThread_throwing (frames_entered h.top _), (st_to (s := (s.setTop g).pushFrame (.throwing a)) hfind).1]
  obtain ⟨g₀, hg⟩ := Option.isSome_iff_exists.mp h.top
  obtain ⟨r, hr⟩ := State.topJava?_eq_some.mp hg
  have hr' : (s.setVm vm').frames = .java g₀ :: r := hr
  rw [State.setTop_of_frames _ hr'] at hrest
  have e1 : (((s.setTop g).pushFrame (.throwing a)).setVm vm').setFrames (.java { g with pc := pc, stack := [.ref a] } :: s.frames.tail) = (s.setVm vm').setFrames (.java { g with pc := pc, stack := [.ref a] } :: r) := by
    rw [hr, State.pushFrame, State.setTop_of_frames _ hr, State.setFrames_setFrames]
    show ((s.setVm vm').setFrames _).setFrames _ = _
    rw [State.setFrames_setFrames]
    rfl
  rw [e1]
  exact hrest
/-- which row catches what is thrown at pc: the first, or the second, past the first -/
def CR (I : MI) (pc : Nat) (E : String) (hp : Nat) : Prop :=
  (∃ (x : ExceptionTableEntry) (t : List ExceptionTableEntry), I.tab = x :: t ∧ covers x pc = true ∧ x.catchType ≠ 0 ∧ x.handlerPc = hp ∧ Cond.classLink I.own x.catchType E ∈ lw_tbl) ∨
  (∃ (y x : ExceptionTableEntry) (t : List ExceptionTableEntry) (N : String), I.tab = y :: x :: t ∧ (covers y pc = true ∧ y.catchType ≠ 0 ∧ Cond.classLink I.own y.catchType N ∈ lw_tbl ∧ (E, N) ∈ ncp) ∧ covers x pc = true ∧ x.catchType ≠ 0 ∧ x.handlerPc = hp ∧ Cond.classLink I.own x.catchType E ∈ lw_tbl)
theorem asg_rf (vm : Vm) (c : ClassId) : vm.assignable c c = true := by
  show vm.assignableAux (255 + 1) c c = true
  rw [Vm.assignableAux]
  simp
theorem WarmedH_note {s : State} {vm : Vm} {pl : Platform} {d i c : Nat} (hW : s.WarmedH vm) (hl : s.vm.ClassLinks pl d i c) : s.WarmedH (vm.noted d i (.cls c)) := by
  obtain ⟨dk, _, _, _, hd, _, _, _, _, _, _, hres⟩ := hl.here
  exact hW.noted hd hres (State.rightAt_cls hl)
theorem fd_of {I : MI} {e : Env} {s S : State} {f : JFrame} {a : Addr} {ce : Cell} {E : String} {hp : Nat} {args : Array Value} {meth : Method} {c : Code} (hC : CR I f.pc E hp) (hm : S.vm.method? f.method = some meth) (hc : meth.code = some c) (ht : c.exceptionTable.toList = I.tab)
    (hN : NW s) (ho : s.vm.findClass I.own = some f.method.cls) (hpl : e.platform.magicAccessors = ({} : Platform).magicAccessors) (hW : s.WarmedH S.vm) (hce : S.heap[a]? = some ce) (hv : ce.vm = .none) (hE : s.vm.findClass E = some ce.cls) :
    ∃ vm', s.WarmedH vm' ∧ fd_to e S f a hp vm' := by
  have hk : ∃ k, S.vm.classes[ce.cls]? = some k := Vm.classAt_of_findClass (by rw [hW.alike.findClass]; exact hE)
  rcases hC with ⟨x, t, e1, c1, z1, rfl, l1⟩ | ⟨y, x, t, N, e1, ⟨c0, z0, l0, nc⟩, c1, z1, rfl, l1⟩
  · obtain ⟨cx, f1, L1⟩ := Cond.classLink_spec ho (hN.at l1 rfl args) e.platform hpl
    cases Option.some.inj (f1.symm.trans hE)
    refine ⟨S.vm.noted f.method.cls x.catchType (.cls ce.cls), WarmedH_note hW L1, fun Q F d acts => ?_⟩
    rw [W.findHandler_eq hm hc, ht, e1, fh_row c1 z1 (hW.classLinks L1) hce hv hk, if_pos (asg_rf _ _)]
  · obtain ⟨cx, f1, L1⟩ := Cond.classLink_spec ho (hN.at l1 rfl args) e.platform hpl
    cases Option.some.inj (f1.symm.trans hE)
    obtain ⟨cy, f0, L0⟩ := Cond.classLink_spec ho (hN.at l0 rfl args) e.platform hpl
    have hW1 : s.WarmedH (S.vm.noted f.method.cls y.catchType (.cls cy)) := WarmedH_note hW L0
    have hno : S.vm.assignable ce.cls cy = false := by
      obtain ⟨c9, t9, g1, g2, g3⟩ := hN.2 _ nc
      cases Option.some.inj (g1.symm.trans hE)
      cases Option.some.inj (g2.symm.trans f0)
      rw [hW.alike.assignable]; exact g3
    have hk1 : ∃ k, (S.vm.noted f.method.cls y.catchType (.cls cy)).classes[ce.cls]? = some k := Vm.classAt_of_findClass (by rw [hW1.alike.findClass]; exact hE)
    refine ⟨(S.vm.noted f.method.cls y.catchType (.cls cy)).noted f.method.cls x.catchType (.cls ce.cls), WarmedH_note hW1 L1, fun Q F d acts => ?_⟩
    rw [W.findHandler_eq hm hc, ht, e1, fh_row c0 z0 (hW.classLinks L0) hce hv hk, if_neg (by rw [hno]; decide)]
    rw [fh_row (S := S.setVm (S.vm.noted f.method.cls y.catchType (.cls cy))) c1 z1 (hW1.classLinks L1) hce hv hk1, if_pos (asg_rf _ _)]
    rfl
variable {l : Launch} {I I' : MI} {pc : Nat} {lv : List (Nat × Value)} {M : List va_E} {k n : Nat} {out : Out}
set_option maxHeartbeats 1000000 in
/-- a call that throws what the method catches; the handler lays it by and goes on -/
theorem J.caught {index na b ci hp w i : Nat} {fs : List Value} {C : String} {T0 : u_T} {N : Nat} {as rest : List Value} {E : String} {M' : List va_E} (hC : Con l I' (.ref b :: as) M (.inr (E, M'))) (hc : CallV I I' C index na) (hd : decode I.cc pc = .ok (.invokevirtual index, 3)) (hM : M[b]? = some (.inr (ci, fs))) (hcl : vwCl[ci]? = some (C, T0, N)) (hna : as.length = na) (hw : wsum rest ≤ 8) (hf : k + I'.mc ≤ I.rm.cells ∧ n + I'.ms ≤ I.rm.slots)
    (hR : CR I pc E hp) (hlen : M'.length = M.length) (hi : i < I.nL) (hd2 : (∃ j : Fin 4, (j : Nat) = i ∧ decode I.cc hp = .ok (.astore_n j, 1) ∧ w = 1) ∨ (decode I.cc hp = .ok (.astore i, 2) ∧ w = 2))
    (kk : J l I (hp + w) [] [] M' (k + I'.mc) (n + I'.ms) out) : J l I pc lv (as.reverse ++ .ref b :: rest) M k n out := by
  intro D cA ad p e s m args below meth c A locs H ls h T hT X
  obtain ⟨q, ce, T', L, ad', g1, g2, g3, gP, gD, gS, hce, hcv, hcl9, X', st⟩ := vthrown hC hc hd hM hcl hna hw hf h hT X
  have ead : ad' = ad := g2 hlen
  subst ead
  obtain ⟨vm', hW', hfd⟩ := fd_of (I := I) (e := e) (s := s) (S := (T'.setTop (F0 m pc ls (rest.map (pv ad')))).pushFrame (.throwing q)) (f := F0 m pc ls (rest.map (pv ad'))) (a := q) (ce := ce) (E := E) (hp := hp) (args := args) (meth := meth) (c := c) hR
    (by rw [Stand.throwing_vm]; exact X'.method') X'.code h.2.2.2.2.2.2.1 h.hw h.ho (by rw [X.admits.platform]) (by rw [Stand.throwing_vm]; exact X'.warmed) (by rw [Stand.throwing_heap]; exact hce) hcv hcl9
  have X2 := X'.noted hW'
  obtain ⟨a1, a2, a3, a4, a5, a6, a7, a8, a9, a10, -, -, -, a14, a15, a16⟩ := id h
  have key : ∀ ls' : Array Slot, lv_has ls' I.nL ((i, Value.ref q) :: (lv.map (fun q => (q.1, pv ad' q.2))).filter (fun q => !(q.1 == i) && !(q.1 + 1 == i && q.2.category == 2))) → Cx I D cA ad' p s m args meth c A (locs ++ L) T'.heap ls' [] M' := fun ls' h' => ⟨a1, a2, a3, a4, a5, a6, a7, a8, a9, a10, gP, gD, gS, a14, a15, h'.1, h'.2.1, fun _ z => nomatch z⟩
  have hWW : W p l e I.rm s m args below meth c T'.heap (locs ++ L) (k + I'.mc) (n + I'.ms) (JQ D cA ad' M.length A I.mc I.ms below args s out) (F0 m hp ls [.ref q]) := by
    rw [← hlen]
    rcases hd2 with ⟨j, hj, hd2, rfl⟩ | ⟨hd2, rfl⟩
    · exact lv_astore_n h.hx h.hb hd2 hj h.hl hi rfl (fun ls' h' => kk D cA ad' p e s m args below meth c A (locs ++ L) T'.heap ls' (key ls' h'))
    · exact lv_astore h.hx h.hb hd2 h.hl hi rfl (fun ls' h' => kk D cA ad' p e s m args below meth c A (locs ++ L) T'.heap ls' (key ls' h'))
  obtain ⟨t, b1, b2⟩ := hWW (T'.setVm vm') rfl X2
  exact ⟨t, st.trans (steps_to (g := F0 m pc ls (rest.map (pv ad'))) (by exact X'.here) hfd b1), b2⟩
end CATCH
