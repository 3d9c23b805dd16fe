/-! Copies, Math, objects made -/
section MORE
variable {l : Launch} {I : MI} {pc : Nat} {lv : List (Nat × Value)} {st : List Value} {M : List va_E} {k n : Nat} {out : Out}
theorem cpy_nI (f g : Nat → Nat) (sp dp c : Nat) : va_cpy (fun j => nI (f j)) (fun j => nI (g j)) sp dp c = fun j => nI (va_cpy f g sp dp c j) := by
  funext j; unfold va_cpy; split <;> rfl
theorem Cx.hml {D : va_G} {cA ad : Nat → Nat} {p : Program} {s : State} {m : MethodId} {args : Array Value} {meth : Method} {c : Code} {A : Nat → Prop} {locs : List Loc} {H : Heap} {ls : Array Slot} (h : Cx I D cA ad p s m args meth c A locs H ls lv M) : c.maxLocals = ls.size := h.2.2.1.trans h.hl.1.symm
theorem J.copyN {index q0 q1 n0 n1 sp dp cnt : Nat} {f g : Nat → Nat} {rest : List Value} (hd : decode I.cc pc = .ok (.invokestatic index, 3)) (hl : Cond.methodLink I.own index arraycopyName ∈ lw_tbl) (hnt : Cond.native arraycopyName ∈ lw_tbl) (hs : Cond.static arraycopyName ∈ lw_tbl) (hi : Cond.initialized "java/lang/System" ∈ lw_tbl)
    (h0 : M[q0]? = some (aI n0 f)) (h1 : M[q1]? = some (aI n1 g)) (b1 : sp + cnt ≤ n0) (b2 : dp + cnt ≤ n1) (hb0 : n0 < 2 ^ 31) (hb1 : n1 < 2 ^ 31) (hfr : 1 ≤ I.rm.frames) (hlo : wsum rest + (nativeFrameWords "java/lang/System" "arraycopy" 5 + 11) ≤ I.rm.locals)
    (kk : J l I (pc + 3) lv rest (M.set q1 (aI n1 (va_cpy f g sp dp cnt))) k n out) : J l I pc lv (.int (nI cnt) :: .int (nI dp) :: .ref q1 :: .int (nI sp) :: .ref q0 :: rest) M k n out := by
  intro D cA ad p e s m args below meth c A locs H ls h
  have c1 : (nI sp).toNatClampNeg = sp := nI_clamp (by omega)
  have c2 : (nI dp).toNatClampNeg = dp := nI_clamp (by omega)
  have c3 : (nI cnt).toNatClampNeg = cnt := nI_clamp (by omega)
  refine va_copyi h.hx h.hb h.hml h.ho (h.hw.at hl rfl args) (h.hw.at hnt rfl args) (h.hw.at hs rfl args) (h.hw.at hi rfl args) h.hK h.hP h.hD h.hS q0 q1 0 0 (ty := .int) (pw_at h0) (pw_at h1) rfl rfl rfl (nI_pos (by omega)) (nI_pos (by omega)) (nI_pos (by omega)) (by rw [c1, c3]; exact b1) (by rw [c2, c3]; exact b2) (fun _ _ => rfl) hfr (by rw [wsum_pv]; exact hlo) hd (fun H1 locs1 hP hD hS => ?_)
  have e1 := pw_set (ad := ad) (cA := cA) (M := M) (k := q1) (e := aI n1 (va_cpy f g sp dp cnt))
  rw [c1, c2, c3, cpy_nI] at hP hD
  have := kk D cA ad p e s m args below meth c A locs1 H1 ls (h.hp (e1 ▸ hP) (e1 ▸ hD) hS)
  rw [jq_len] at this
  exact this
theorem J.mmax {index : Nat} {x y : Int32} {rest : List Value} (hd : decode I.cc pc = .ok (.invokestatic index, 3)) (hl : Cond.methodLink I.own index Lib.Math.max.name ∈ lw_tbl) (hs : Cond.static Lib.Math.max.name ∈ lw_tbl) (hi : Cond.initialized "java/lang/Math" ∈ lw_tbl) (hc : Cond.code Lib.Math.max.name Lib.Math.max.code 2 (some .int) ∈ lw_tbl)
    (hfr : 1 ≤ I.rm.frames) (hlo : wsum rest + 13 ≤ I.rm.locals) (hk : k ≤ I.rm.cells) (hn : n ≤ I.rm.slots) (kk : J l I (pc + 3) lv (.int (if x < y then y else x) :: rest) M k n out) : J l I pc lv (.int y :: .int x :: rest) M k n out :=
  fun D cA ad p e s m args below meth c A locs H ls h => va_mmax h.hx h.hb h.hml h.ho (h.hw.at hl rfl args) (h.hw.at hs rfl args) (h.hw.at hi rfl args) (h.hw.at hc rfl args) hfr (by rw [wsum_pv]; exact hlo) hk hn hd (kk D cA ad p e s m args below meth c A locs H ls h)
theorem J.mmin {index : Nat} {x y : Int32} {rest : List Value} (hd : decode I.cc pc = .ok (.invokestatic index, 3)) (hl : Cond.methodLink I.own index Lib.Math.min.name ∈ lw_tbl) (hs : Cond.static Lib.Math.min.name ∈ lw_tbl) (hi : Cond.initialized "java/lang/Math" ∈ lw_tbl) (hc : Cond.code Lib.Math.min.name Lib.Math.min.code 2 (some .int) ∈ lw_tbl)
    (hfr : 1 ≤ I.rm.frames) (hlo : wsum rest + 13 ≤ I.rm.locals) (hk : k ≤ I.rm.cells) (hn : n ≤ I.rm.slots) (kk : J l I (pc + 3) lv (.int (if y < x then y else x) :: rest) M k n out) : J l I pc lv (.int y :: .int x :: rest) M k n out :=
  fun D cA ad p e s m args below meth c A locs H ls h => va_mmin h.hx h.hb h.hml h.ho (h.hw.at hl rfl args) (h.hw.at hs rfl args) (h.hw.at hi rfl args) (h.hw.at hc rfl args) hfr (by rw [wsum_pv]; exact hlo) hk hn hd (kk D cA ad p e s m args below meth c A locs H ls h)
/-- fewer locals -/
theorem J.sub {lv' : List (Nat × Value)} (is : List Nat) (kk : J l I pc lv' st M k n out) (hs : is.filterMap (fun i => lv[i]?) = lv' := by rfl) : J l I pc lv st M k n out := by
  intro D cA ad p e s m args below meth c A locs H ls h
  refine kk D cA ad p e s m args below meth c A locs H ls (h.lv' ⟨h.hl.1, h.hl.2.1, fun q hq => h.hl.2.2 q ?_⟩)
  obtain ⟨q0, hq0, rfl⟩ := List.mem_map.mp hq
  subst hs
  obtain ⟨i, -, hi⟩ := List.mem_filterMap.mp hq0
  exact List.mem_map.mpr ⟨q0, List.mem_of_getElem? hi, rfl⟩
end MORE
theorem cp_n : Cond.native arraycopyName ∈ lw_tbl := by decide +kernel
theorem cp_s : Cond.static arraycopyName ∈ lw_tbl := by decide +kernel
theorem cp_i : Cond.initialized "java/lang/System" ∈ lw_tbl := by decide +kernel
