/-! THE CLAIM OUT OF ONE WALK OF THE LAW'S BODY. Your part is whole_start (and what it stands on); all else here is the same for every law, but numbers. -/
def R_law : String := "StripeVaultLaw"
def lw_P (b : Addr) (xs : List Int32) (args : Array Value) (s : State) : Prop := args = #[.ref b] ∧ s.IntsAt b xs ∧ xs.length ≤ 2562 ∧ (Jvm.Cond.and given_1 narrow_1).before args s = true
def lw_Q (_ : Array Value) (s : State) (o : Outcome) (t : State) : Prop := o = .returned (some (.int 1)) ∧ Framed s o t [] 601024 7293000
def lw_Z (below : List Frame) (a : Array Value) (s : State) : State → Prop := fun t => ∃ o, t.status = .running ∧ Ended t below o ∧ lw_Q a s o t
/-- what holds at the law's entry: the machine, the code, the tables' words (any of lw_tbl by 'hts w (by decide +kernel)'), the script of L ints xs at the cell b, what the Statement gives of the start (any of its parts by flat_of_before) -/
def lw_At (p : Program) (s : State) (m : MethodId) (meth : Method) (c : Code) (b L : Nat) (xs : Nat → Int32) : Prop :=
  p.tables.exec = Jvm.exec ∧ c.code = code ∧ meth.sig.returnType = ret ∧ c.maxLocals = 7 ∧ s.vm.findClass R_law = some m.cls ∧ (∀ w ∈ lw_tbl, w.before #[Value.ref b] s = true) ∧ va_X b L xs s s.heap ∧ b < s.heap.size ∧ meth.locks = false ∧ (Jvm.Cond.and given_1 narrow_1).before #[Value.ref b] s = true
theorem inst_V : Cond.instantiable NV 7 ∈ lw_tbl := by decide +kernel
theorem inst_C : Cond.instantiable NC 6 ∈ lw_tbl := by decide +kernel
theorem inst_D : Cond.instantiable ND 4 ∈ lw_tbl := by decide +kernel
theorem inst_G : Cond.instantiable NG 4 ∈ lw_tbl := by decide +kernel
theorem inst_R : Cond.instantiable NR 16 ∈ lw_tbl := by decide +kernel
theorem arr_of {s : State} {args : Array Value} {ty : FieldType} (h : (Cond.arrayClass ty).before args s = true) : ∃ c, ArrOfT s c ty ∧ s.vm.findClass ("[" ++ ty.toString) = some c := by
  obtain ⟨c, k, comp, h1, h2, h3⟩ := Cond.arrayClass_spec h
  exact ⟨c, fun n z => ⟨fun k h => (by cases h), k, h2, comp, h3⟩, h1⟩
/-- the tables' words name the classes and the arrays -/
theorem start_K {s : State} {args : Array Value} (hts : ∀ w ∈ lw_tbl, w.before args s = true) : ∃ (D : va_G) (cA : Nat → Nat), va_K D vwCl (ty3 cA) s := by
  obtain ⟨v1, v2, v3⟩ := u_known hts (fun w hw => (lays_V w hw).1) (hts _ inst_V)
  obtain ⟨c1, c2, c3⟩ := u_known hts (fun w hw => (lays_C w hw).1) (hts _ inst_C)
  obtain ⟨d1, d2, d3⟩ := u_known hts (fun w hw => (lays_D w hw).1) (hts _ inst_D)
  obtain ⟨g1, g2, g3⟩ := u_known hts (fun w hw => (lays_G w hw).1) (hts _ inst_G)
  obtain ⟨r1, r2, r3⟩ := u_known hts (fun w hw => (lays_R w hw).1) (hts _ inst_R)
  obtain ⟨a1, i1, i2⟩ := arr_of (hts _ acI)
  obtain ⟨a2, z1, z2⟩ := arr_of (hts _ acZ)
  obtain ⟨a3, l1, l2⟩ := arr_of (hts _ acL)
  refine ⟨(fun i => match i with | 0 => v1 | 1 => c1 | 2 => d1 | 3 => g1 | _ => r1, fun i => match i with | 0 => v2 | 1 => c2 | 2 => d2 | 3 => g2 | _ => r2), fun i => match i with | 0 => a1 | 1 => a2 | _ => a3, fun c q hq => ?_, fun k q hk => ?_⟩
  · match c, hq with
    | 0, hq => cases Option.some.inj hq; exact v3
    | 1, hq => cases Option.some.inj hq; exact c3
    | 2, hq => cases Option.some.inj hq; exact d3
    | 3, hq => cases Option.some.inj hq; exact g3
    | 4, hq => cases Option.some.inj hq; exact r3
    | n + 5, hq => exact nomatch hq
  · match k, hk with
    | 0, hk => cases Option.some.inj hk; exact ⟨i1, i2⟩
    | 1, hk => cases Option.some.inj hk; exact ⟨z1, z2⟩
    | 2, hk => cases Option.some.inj hk; exact ⟨l1, l2⟩
    | n + 3, hk => exact nomatch hk
/-- a static field's words, where the tables are alike and the old cells as they were -/
theorem st_lay {s U : State} {args a' : Array Value} (hv : s.vm.Alike U.vm) (hq : ∀ q : Nat, q < s.heap.size → U.heap[q]? = s.heap[q]?) {O f d : String} (h : (Cond.laysStatic O f d).before args s = true) : (Cond.laysStatic O f d).before a' U = true := by
  have h1 := Cond.laysStatic_setVm hv h
  obtain ⟨c, k, i, fd, a, cell, z1, z2, z3, z4, z5, z6, z7, z8, z9⟩ := Cond.laysStatic_spec h1
  have z5' : s.heap[a]? = some cell := z5
  exact Cond.laysStatic_of (s := U) z1 z2 z3 z4 ((hq a (Array.getElem?_eq_some_iff.mp z5').1).trans z5') z6 z7 z8 z9
theorem st_ref {s U : State} {args a' : Array Value} (hv : s.vm.Alike U.vm) (hq : ∀ q : Nat, q < s.heap.size → U.heap[q]? = s.heap[q]?) {O f d : String} (hl : (Cond.laysStatic O f d).before args s = true) (h : (Cond.isRef (.static O f d)).before args s = true) : (Cond.isRef (.static O f d)).before a' U = true := by
  cases he : (Term.static O f d).eval args s none [] s with
  | none => simp [Cond.before, Cond.holds, Cond.value, he] at h
  | some v =>
    have he2 := Term.static_setVm hv he
    have h1 := Cond.laysStatic_setVm hv hl
    obtain ⟨c, k, i, fd, a, cell, z1, z2, z3, z4, z5, z6, z7, z8, z9⟩ := Cond.laysStatic_spec h1
    obtain ⟨-, a2, cell2, y1, y2, -, y3⟩ := Term.static_spec z2 he2
    cases Option.some.inj (z4.symm.trans y1)
    cases Option.some.inj (z5.symm.trans y2)
    have z5' : s.heap[a]? = some cell := z5
    have heU : (Term.static O f d).eval a' U none [] U = some v := Term.static_eval (s := U) z2 z3 z4 ((hq a (Array.getElem?_eq_some_iff.mp z5').1).trans z5') z6 y3
    simp only [Cond.before, Cond.holds, Cond.value, he] at h
    simp only [Cond.before, Cond.holds, Cond.value, heU]
    exact h
theorem start_ZZ {s : State} {b : Nat} (hts : ∀ w ∈ lw_tbl, w.before #[Value.ref b] s = true) (hgv : (Jvm.Cond.and given_1 narrow_1).before #[Value.ref b] s = true) : ZZ (fun q => s.heap.size ≤ q) s s.heap := by
  intro U a' hv hz hq w hw
  have hq' : ∀ q : Nat, q < s.heap.size → U.heap[q]? = s.heap[q]? := fun q h => hq q h (Nat.not_le.mpr h)
  have hg := flat_of_before _ hgv
  have l1 : (Cond.laysStatic Bundle.tN "UNASSIGNED_STACK" Bundle.steD).before #[Value.ref b] s = true := hts _ (by decide +kernel)
  have l2 : (Cond.laysStatic Bundle.tN "SUPPRESSED_SENTINEL" Bundle.listD).before #[Value.ref b] s = true := hts _ (by decide +kernel)
  have r1 : (Cond.isRef (.static Bundle.tN "UNASSIGNED_STACK" Bundle.steD)).before #[Value.ref b] s = true := hg _ (by decide +kernel)
  have r2 : (Cond.isRef (.static Bundle.tN "SUPPRESSED_SENTINEL" Bundle.listD)).before #[Value.ref b] s = true := hg _ (by decide +kernel)
  simp only [zw, List.mem_cons, List.mem_nil_iff, or_false] at hw
  rcases hw with rfl | rfl | rfl | rfl
  · exact st_ref hv hq' l1 r1
  · exact st_ref hv hq' l2 r2
  · exact st_lay hv hq' l1
  · exact st_lay hv hq' l2
theorem start_NW {s : State} {b : Nat} (hts : ∀ w ∈ lw_tbl, w.before #[Value.ref b] s = true) (hgv : (Jvm.Cond.and given_1 narrow_1).before #[Value.ref b] s = true) : NW s := by
  have hg := flat_of_before _ hgv
  refine ⟨fun U a' hW w hw ho => okw_at hW ho (hts w hw), fun q hq => ?_⟩
  simp only [ncp, List.mem_cons, List.mem_nil_iff, or_false] at hq
  rcases hq with rfl | rfl | rfl | rfl | rfl
  · exact va_Nc.of (hg _ (by decide +kernel))
  · exact va_Nc.of (hg _ (by decide +kernel))
  · exact va_Nc.of (hg _ (by decide +kernel))
  · exact va_Nc.of (hg _ (by decide +kernel))
  · exact va_Nc.of (hg _ (by decide +kernel))
set_option maxHeartbeats 1000000 in
/-- from the entry, for every script of at most 2562 ints, the law comes to its end with true -/
theorem whole_start {p : Program} {e : Env} {s : State} {m : MethodId} {below : List Frame} {meth : Method} {c : Code} (l : Launch) (hl : l.stackTraces = false) {b L : Nat} {xs : Nat → Int32} (hL : L ≤ 2562) (C0 : lw_At p s m meth c b L xs) (hnm : meth.name = "law") (htb : c.exceptionTable.toList = []) : W p l e room_1 s m #[Value.ref b] below meth c s.heap [] 0 0 (lw_Z below #[Value.ref b] s) (entryFrame m ([Value.ref b] : List Value).toArray 7) := by
  obtain ⟨hx, hb, hr, hml, hown, hts, hX, hbl, hlk, hgv⟩ := C0
  obtain ⟨D, cA, hK⟩ := start_K hts
  obtain ⟨Mf, hJ⟩ := law_J (l := l) (L := L) (xs := xs) hl hL
  rw [lg_entry_eq]
  have hCx : Cx (i_law L xs) D cA (fun _ => b) p s m #[Value.ref b] meth c (fun q => s.heap.size ≤ q) [] s.heap _ [(0, .ref 1000)] [] :=
    ⟨hx, hb, hml, hr, hlk, hnm, htb, start_NW hts hgv, hown, hK, (fun _ _ h => (nomatch h)), ⟨fun _ _ _ _ h => (nomatch h), fun _ _ h => (nomatch h)⟩, va_S.rf, ⟨fun _ h => h, ⟨hX, hbl, Nat.not_le.mpr hbl⟩⟩, start_ZZ hts hgv, lv_entry [Value.ref b] (n := 7) (Nat.le_of_ble_eq_true rfl)⟩
  refine W_post (hJ D cA (fun _ => b) p e s m #[Value.ref b] below meth c _ [] s.heap _ hCx) (fun t ht => ?_)
  obtain ⟨o, t1, t2, ⟨⟨ad', -, -, -, ho, -⟩, hF⟩, Ls, ⟨⟨v, hv⟩, hW, e1, e2, e3, e4, e5, -⟩, -⟩ := ht
  refine ⟨o, t1, t2, ho, ⟨v, hv⟩, hW, e1, e2, e3, e4, e5, fun a c9 h9 => ?_⟩
  have hlt : a < s.heap.size := (Array.getElem?_eq_some_iff.mp h9).1
  exact ⟨c9, (hF.2 a hlt (Nat.not_le.mpr hlt)).trans h9, rfl, rfl, fun _ _ => rfl⟩
set_option maxHeartbeats 4000000 in
theorem lw_walk (l : Launch) (hl : l.stackTraces = false) (b : Addr) (xs : List Int32) : MetFree l x (headSpec (Jvm.Cond.code x code maxLocals ret :: tables_1) room_1) (lw_P b xs) (fun _ _ _ _ _ => True) lw_Q := by
  refine MetFree.of_bodyS (code := code) (maxLocals := maxLocals) (ret := ret) (by decide) ?_ ?_
  · intro args s m h hn
    obtain ⟨meth, c, h1, h2, h3, h4, h5, h6, -, -⟩ := Cond.code_spec hn (atoms_spec (ws := Jvm.Cond.code x code maxLocals ret :: tables_1) h _ List.mem_cons_self)
    exact ⟨meth, c, h1, h2, h3, h4, h5, h6⟩
  · intro p e s m args below meth c s₁ B hml0 hP _
    obtain ⟨rfl, hx, hbd, hgv⟩ := hP
    obtain ⟨scr, harrAt, hlist, hof, hsmall⟩ := hx
    obtain ⟨hcb, hkn, -, -⟩ := State.arrayAt?_spec harrAt
    have hown : s.vm.findClass R_law = some m.cls := findClass_of_methodNamed B.named
    have hts0 : ∀ c ∈ (Jvm.Cond.code x code maxLocals ret :: tables_1), c.before #[Value.ref b] s = true := atoms_spec (ws := Jvm.Cond.code x code maxLocals ret :: tables_1) B.pre
    have hts : ∀ w ∈ lw_tbl, w.before #[Value.ref b] s = true := k2_hts_sels lw_privs (fun w hw => hts0 w (List.mem_cons_of_mem _ hw)) lw_privs_ok
    have hml : c.maxLocals = 7 := B.maxLocals_eq (hts0 _ List.mem_cons_self)
    have X₀ : Stand p l e room_1 s m #[Value.ref b] below meth c s₁ [] 0 0 := Stand.of_body B
    have hh0 : s₁.heap = s.heap := by rw [B.state]; rfl
    have hsz : scr.slots.size = xs.length := by rw [← Array.length_toList, hlist, List.length_map]
    have hval : ∀ j : Nat, j < xs.length → scr.slots[j]? = some (.int (xs.getD j 0)) := fun j hj => by
      rw [← Array.getElem?_toList, hlist]
      simp [hj]
    have hbl : b < s.heap.size := (Array.getElem?_eq_some_iff.mp hcb).1
    have hX : va_X b xs.length (fun j => xs.getD j 0) s s.heap := ⟨scr, hcb, hof, hkn, hsz, hval⟩
    have hnm : meth.name = "law" := (name_of_methodNamed B.named B.method).1
    have htb : c.exceptionTable.toList = [] := by
      obtain ⟨meth9, c9, h1, h2, -, -, -, -, h7, -⟩ := Cond.code_spec B.named (hts0 _ List.mem_cons_self)
      cases Option.some.inj (h1.symm.trans B.method)
      cases Option.some.inj (h2.symm.trans (Stand.of_body B).code)
      rw [Array.isEmpty_iff.mp h7]
    have K : W p l e room_1 s m #[Value.ref b] below meth c s₁.heap [] 0 0 (lw_Z below #[Value.ref b] s) (entryFrame m ([Value.ref b] : List Value).toArray 7) := by
      rw [hh0]
      exact whole_start l hl hbd ⟨B.exec, B.bytes, B.returns, hml, hown, hts, hX, hbl, B.notSynchronized, hgv⟩ hnm htb
    obtain ⟨t, a1, o, b1, b2, b3⟩ := K s₁ rfl X₀
    exact ⟨t, o, a1, b1, b2, b3⟩
theorem lw_pre_spec {args : Array Value} {s : State} (h : (Jvm.Cond.and given_1 narrow_1).before args s = true) (hr : rest_1_c.before args s = true) : ∃ (b : Addr) (xs : List Int32), lw_P b xs args s := by
  have hs := flat_of_before _ h
  have hq := flat_of_before _ hr
  have hc : (Cond.count 1).before args s = true := hs _ (by decide +kernel)
  have harr : (Cond.arrayOf (.arg 0) .int).before args s = true := hs _ (by decide +kernel)
  have hle : (Cond.le (.length (.arg 0)) (.int 2562)).before args s = true := hs _ (by decide +kernel)
  have hlen : (Cond.isInt (.length (.arg 0))).before args s = true := hq _ (by decide +kernel)
  have hall : (Cond.all (.arg 0) (.isInt (.elem (.arg 0) (.index 0)))).before args s = true := hq _ (by decide +kernel)
  obtain ⟨b, xs, hb, hx⟩ := State.ints_of_pre rfl harr hlen hall
  have hsm : xs.length < 2 ^ 31 := hx.choose_spec.2.2.2
  have hev : (Term.length (.arg 0)).eval args s none [] s = some (.int xs.length.toInt32) := hx.length_eval hb
  have hv := Cond.le_ints hev (show (Term.int 2562).eval args s none [] s = some (.int 2562) from rfl)
  have hd : xs.length.toInt32 ≤ 2562 := by
    simpa [Cond.before, Cond.holds, hv] using hle
  have hN : xs.length ≤ 2562 := (Int32.ofNat_le_ofNat hsm (by decide)).mp (show Int32.ofNat xs.length ≤ Int32.ofNat 2562 from hd)
  exact ⟨b, xs, Cond.one_arg hc (show args[0]? = some (.ref b) from hb), hx, hN, h⟩
theorem lw_comes (l : Launch) (hl : l.stackTraces = false) : Comes l x (Jvm.Cond.code x code maxLocals ret :: tables_1) room_1 (fun tb e args s => Calls_1 tb e args s ∧ rest_1 tb e args s ∧ Pre_1 tb e args s)
    (fun _ _ args s o t => lw_Q args s o t) := by
  intro p e ha hc hk s m args below hf hfit hheap happ hpre
  obtain ⟨b, xs, hP⟩ := lw_pre_spec hpre.2.2 hpre.2.1
  obtain ⟨k, o, h1, h2, h3, hQ⟩ := lw_walk l hl b xs p e ha hc hk s m args below hf ((Spec.applies_iff_loose hf).mp happ).1 hP trivial
  exact ⟨k, o, h1, h2, h3, hQ⟩
theorem lw_frame {s t : State} {o : Outcome} {args : Array Value} (h : Framed s o t [] 601024 7293000) :
    Framed s o t (fieldLocs frame_1_writes args s ++ arrayLocs frame_1_arrays args s ++ staticLocs frame_1_statics s) 601024 7293000 := h
theorem lw_limb (L : Cond) (hL : ∀ (args : Array Value) (s t : State), L.after args s (.returned (some (.int 1))) t = true) :
    ArmFor flags0 classFile x code maxLocals ret World_1 tables_1 room_1 Calls_1 rest_1 Pre_1
      (fun tb e a s o t => postC L tb e a s o t ∧ Framed s o t (fieldLocs frame_1_writes a s ++ arrayLocs frame_1_arrays a s ++ staticLocs frame_1_statics s) 601024 7293000) := by
  intro l hfl _ _ p e ha hc hk s m args below hf hfit hheap happ hpre
  have hl : l.stackTraces = false := (show e.platform.stackTraces = l.stackTraces by rw [ha.platform]).symm.trans (Launch.traces_off hfl ha)
  obtain ⟨k, o, h1, h2, h3, rfl, hF⟩ := lw_comes l hl p e ha hc hk s m args below hf hfit hheap happ hpre
  exact ⟨k, _, h1, h2, h3, hL args s _, lw_frame hF⟩
theorem i_vc : Claimed_1_1 ∧ Claimed_1_2 := ⟨lw_limb limb_1_1 (fun args s t => by simp [limb_1_1, Cond.after, Cond.holds, Cond.value]), lw_limb limb_1_2 (fun args s t => Cond.after_iff.mpr (by
  first | (rw [show limb_1_2 = Cond.eq .result (.int 1) from rfl, Cond.eq_ints (x := 1) (y := 1) rfl rfl]; simp; done) | (simp [limb_1_2, Cond.value, Term.eval]; done)))⟩
