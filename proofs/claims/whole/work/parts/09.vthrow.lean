section VT
variable {l : Launch} {I I' : MI} {pc : Nat} {lv : List (Nat × Value)} {M : List va_E} {k n : Nat}
/-- what a callee that threw leaves, as its caller has it -/
theorem Qt.facts {D : va_G} {cA ad : Nat → Nat} {N : Nat} {A : Nat → Prop} {mc ms : Nat} {r : String × List va_E} {a : Array Value} {st t : State} {o : Outcome} (h : Qt D cA ad N A mc ms r a st o t) : ∃ (q : Addr) (L : List Loc), o = .threw q ∧ st.WarmedH t.vm ∧ st.sameButNew ({ t with vm := st.vm } : State) L mc ms ∧ ∀ z ∈ L, A z.base := by
  obtain ⟨-, q, ce, L, h1, -, -, -, -, h6, h7, h8⟩ := h
  exact ⟨q, L, h1, h6, h7, h8⟩
set_option maxHeartbeats 1000000 in
/-- a call that throws: the frame has q thrown over it -/
theorem vthrown {index na b ci : Nat} {fs : List Value} {C : String} {T0 : u_T} {N : Nat} {as rest : List Value} {E : String} {M' : List va_E} (hC : Con l I' (.ref b :: as) M (.inr (E, M'))) (hc : CallV I I' C index na) (hd : decode I.cc pc = .ok (.invokevirtual index, 3)) (hM : M[b]? = some (.inr (ci, fs))) (hcl : vwCl[ci]? = some (C, T0, N)) (hna : as.length = na) (hw : wsum rest ≤ 8) (hf : k + I'.mc ≤ I.rm.cells ∧ n + I'.ms ≤ I.rm.slots)
    {D : va_G} {cA ad : Nat → Nat} {p : Program} {e : Env} {s : State} {m : MethodId} {args : Array Value} {below : List Frame} {meth : Method} {c : Code} {A : Nat → Prop} {locs : List Loc} {H : Heap} {ls : Array Slot} (h : Cx I D cA ad p s m args meth c A locs H ls lv M)
    {T : State} (hT : T.heap = H) (X : Stand p l e I.rm s m args below meth c T locs k n) :
    ∃ (q : Addr) (ce : Cell) (T' : State) (L : List Loc) (ad' : Nat → Nat), (∀ i, i < M.length → ad' i = ad i) ∧ (M'.length = M.length → ad' = ad) ∧ M.length ≤ M'.length ∧ va_P D vwCl (pw ad' cA M') T'.heap ∧ va_D A (pw ad' cA M') ∧ va_S A s.heap T'.heap (locs ++ L) ∧
      T'.heap[q]? = some ce ∧ ce.vm = .none ∧ s.vm.findClass E = some ce.cls ∧ Stand p l e I.rm s m args below meth c T' (locs ++ L) (k + I'.mc) (n + I'.ms) ∧
      Steps p.tables e below (T.setTop (F0 m pc ls ((as.reverse ++ .ref b :: rest).map (pv ad)))) ((T'.setTop (F0 m pc ls (rest.map (pv ad)))).pushFrame (.throwing q)) := by
  obtain ⟨p1, p2⟩ := Ps_here h (.ref b :: as) I'.ex hc.1.1.2
  have hb := hc.1
  have hBk := backT_of (p := p) (e := e) (below := below) (s := s) (sargs := args) (len := 3) (W9 := 8) (R := I.rm) (hC D cA ad H.size) p1 hb.1.1 hb.2.1 hb.2.2.1 hb.2.2.2.1 (hb.ws h.hw) hb.mem (fun a' U hW => h.hw.1 U a' hW _ hb.2.2.2.2.2.2.1 rfl) (fun a st o t hq => Qt.facts hq)
  obtain ⟨cellB, hcB, hoB, hclB⟩ := va_recv h.hK h.hP hcl (pw_at (ad := ad) (cA := cA) hM)
  obtain ⟨q, vm₁, ⟨U', l2, c2, s2⟩, hW₁, X', ⟨g', mk, t, L, e1, e2, hq, h1, hL, h2, h3⟩, st⟩ := callVT X h.hx h.ho (h.hw.at hc.2.1 rfl args) (h.hw.at hc.2.2.1 rfl args) (h.hw.at hc.2.2.2 rfl args) (h.hw.at hb.2.2.2.2.2.1 rfl args) hb.2.2.2.2.2.2.2.1 hBk (b := ad b) (by rw [hT]; exact hcB) hoB hclB
    (g := F0 m pc ls ((as.reverse ++ .ref b :: rest).map (pv ad))) rfl (h.hl.1.trans h.2.2.1.symm) (argsL := as.map (pv ad)) (rest := rest.map (pv ad)) (fun sig hs => by rw [List.length_map]; exact hna.trans (hb.arity sig hs)) (map_rev ad as (.ref b :: rest)) (by show 2 * 0 + _ ≤ 8; rw [wsum_pv]; omega) (by rw [h.hb]; exact hd)
    (fun vm₁ hW₁ => ⟨hf.1, hf.2, p2 (T.setVm vm₁) hT hW₁⟩)
  dsimp only [Pt.U, Pt.locs, Pt.cells, Pt.slots] at X' e1 e2 h1 h2 h3 st hq
  subst h1; subst h2; subst h3
  obtain ⟨⟨ad', g1, g2, g3, g5, g6, g7⟩, q9, ce, L9, z1, z2, z3, z4, z5, z6, z7, z8⟩ := hq
  cases z1
  have hfr := free_in h
  have h0 : ((T.setVm vm₁).calling g' mk (Value.ref (ad b) :: as.map (pv ad)).toArray).heap = H := hT
  have hSz : H.size ≤ U'.heap.size := by rw [e1, ← h0]; exact z5.1
  have hk1 : ∀ q : Nat, q < H.size → ¬ A q → U'.heap[q]? = H[q]? := by
    intro q g h9
    rw [e1, ← h0]
    exact z5.2 q (by rw [h0]; exact g) (fun z => h9 (hfr q z))
  refine ⟨q, ce, U', L, ad', g1, g2, g3, by rw [e1]; exact g5, g7.weaken (fun j q _ hq => hfr _ hq), ⟨Nat.le_trans h.hS.1 hSz, fun q h1 h2 => (hk1 q (Nat.lt_of_lt_of_le h1 h.hS.1) h2).trans (h.hS.2.1 q h1 h2), fun q hq => ?_⟩, by rw [e1]; exact z2, z3, ?_, X', st⟩
  · rcases List.mem_append.mp hq with z | z
    · exact h.hS.2.2 q z
    · exact hfr _ (hL q z)
  · have : vm₁.findClass E = some ce.cls := z4
    rw [hW₁.alike.findClass] at this
    exact this
/-- .. and nobody catches it here -/
theorem J.vthrows {index na b ci : Nat} {fs : List Value} {C : String} {T0 : u_T} {N : Nat} {as rest : List Value} {E : String} {M' : List va_E} (hC : Con l I' (.ref b :: as) M (.inr (E, M'))) (hc : CallV I I' C index na) (hd : decode I.cc pc = .ok (.invokevirtual index, 3)) (hM : M[b]? = some (.inr (ci, fs))) (hcl : vwCl[ci]? = some (C, T0, N)) (hna : as.length = na) (hw : wsum rest ≤ 8) (htab : I.tab = []) (hf : k + I'.mc ≤ I.mc ∧ n + I'.ms ≤ I.ms) (hr : I.mc ≤ I.rm.cells ∧ I.ms ≤ I.rm.slots) : J l I pc lv (as.reverse ++ .ref b :: rest) M k n (.inr (E, M')) := by
  intro D cA ad p e s m args below meth c A locs H ls h T hT X
  obtain ⟨q, ce, T', L, ad', g1, g2, g3, gP, gD, gS, hce, hcv, hcl9, X', st⟩ := vthrown hC hc hd hM hcl hna hw ⟨Nat.le_trans hf.1 hr.1, Nat.le_trans hf.2 hr.2⟩ h hT X
  obtain ⟨st1, hrun, hend, hW, hsm⟩ := X'.leaveThrown q (g := F0 m pc ls (rest.map (pv ad))) rfl rfl rfl (by rw [h.2.2.2.2.2.2.1, htab]; exact fun _ hx => nomatch hx) h.2.2.2.2.1
  exact ⟨_, st.trans st1, .threw q, hrun, hend, ⟨ad', g1, g2, g3, gP, va_K.moved hW.alike h.hK, gD⟩, q, ce, locs ++ L, rfl, hce, hcv, hcl9, gS.F rfl, hW, hsm.mono hf.1 hf.2, gS.2.2⟩
end VT
