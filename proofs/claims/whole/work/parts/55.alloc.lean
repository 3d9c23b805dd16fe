/-! Objects and arrays made; the world's places renamed -/
section ALLOC
variable {l : Launch} {I : MI} {pc : Nat} {lv : List (Nat × Value)} {st : List Value} {M : List va_E} {k n : Nat} {out : Out}
/-- an end for a longer world is one for a shorter -/
theorem JQ.shrink {D : va_G} {cA ad ad' : Nat → Nat} {N N' : Nat} {A : Nat → Prop} {mc ms : Nat} {below : List Frame} {args : Array Value} {s t : State} (h1 : ∀ i, i < N ∨ N' ≤ i → ad' i = ad i) (h2 : N < N') (h : JQ D cA ad' N' A mc ms below args s out t) : JQ D cA ad N A mc ms below args s out t := by
  cases out with
  | inl r2 =>
    obtain ⟨o, c1, c2, ⟨⟨ad2, d1, d2, d3, d4⟩, c4⟩, c5⟩ := h
    exact ⟨o, c1, c2, ⟨⟨ad2, fun i hi => (d1 i (hi.imp (fun z => Nat.lt_trans z h2) id)).trans (h1 i (hi.imp id (fun z => Nat.le_trans d3 z))), fun hz => absurd hz (Nat.ne_of_gt (Nat.lt_of_lt_of_le h2 d3)), Nat.le_trans (Nat.le_of_lt h2) d3, d4⟩, c4⟩, c5⟩
  | inr r2 =>
    obtain ⟨o, c1, c2, ⟨ad2, d1, d2, d3, d4⟩, c4⟩ := h
    exact ⟨o, c1, c2, ⟨ad2, fun i hi => (d1 i (Nat.lt_trans hi h2)).trans (h1 i (Or.inl hi)), fun hz => absurd hz (Nat.ne_of_gt (Nat.lt_of_lt_of_le h2 d3)), Nat.le_trans (Nat.le_of_lt h2) d3, d4⟩, c4⟩
theorem W_post {p : Program} {e : Env} {R : Room} {s : State} {m : MethodId} {args : Array Value} {below : List Frame} {meth : Method} {c : Code} {H : Heap} {locs : List Loc} {Q Q' : State → Prop} {g : JFrame} (h : W p l e R s m args below meth c H locs k n Q g) (hQ : ∀ t, Q t → Q' t) : W p l e R s m args below meth c H locs k n Q' g := fun T hT X => by
  obtain ⟨t, a, b⟩ := h T hT X
  exact ⟨t, a, hQ t b⟩
/-- a place more -/
def adp (ad : Nat → Nat) (N q : Nat) : Nat → Nat := fun i => if i = N then q else ad i
theorem adp_lt {ad : Nat → Nat} {N q i : Nat} (h : i < N) : adp ad N q i = ad i := if_neg (Nat.ne_of_lt h)
theorem adp_or {ad : Nat → Nat} {N q i : Nat} (h : i < N ∨ N + 1 ≤ i) : adp ad N q i = ad i := if_neg (by omega)
theorem adp_at {ad : Nat → Nat} {N q : Nat} : adp ad N q N = q := if_pos rfl
theorem pw_app {ad cA : Nat → Nat} {q : Nat} {e : va_E} (hM : M.all (pokE M.length) = true) (he : pokE M.length e = true) : pw (adp ad M.length q) cA (M ++ [e]) = pw ad cA M ++ [(q, pe ad cA e)] := by
  have h0 : pw (adp ad M.length q) cA M = pw ad cA M := pw_eq (fun i hi => adp_lt hi) hM
  have h1 : pw (adp ad M.length q) cA (M ++ [e]) = pw (adp ad M.length q) cA M ++ [(q, pe (adp ad M.length q) cA e)] := by
    unfold pw
    rw [List.mapIdx_append]
    simp [adp]
  rw [h1, h0, pe_eq (fun i hi => adp_lt hi) he]
/-- what a 'new' links -/
def NWL (own : String) (index ci : Nat) (fs : List Value) (N : Nat) : Prop := ∃ (C : String) (T : u_T) (ty : Nat → FieldType), vwCl[ci]? = some (C, T, N) ∧ (∀ w ∈ u_ws C T N, w ∈ lw_tbl ∧ okw w = true) ∧ (∀ k, k < N → parseFieldDescriptor (T k).2.2.1 = some (ty k)) ∧ Cond.classLink own index C ∈ lw_tbl ∧ Cond.instantiable C N ∈ lw_tbl ∧ Cond.initialized C ∈ lw_tbl ∧ (∀ j, j < N → defaultValue (ty j) = vp_V fs j) ∧ fs.all (pok 0) = true
theorem pok_mono {a b : Nat} (h : a ≤ b) {v : Value} (hv : pok a v = true) : pok b v = true := by
  cases v <;> first | rfl | exact decide_eq_true (Nat.lt_of_lt_of_le (of_decide_eq_true hv) h)
theorem J.new {index ci N : Nat} {fs : List Value} (hd : decode I.cc pc = .ok (.new index, 3)) (hL : NWL I.own index ci fs N) (hM : M.all (pokE M.length) = true) (hlv : lv.all (fun q => pkl M.length q.2) = true) (hst : (st.all (pkl M.length) && decide (M.length < 1000)) = true) (hc : k + 1 ≤ I.rm.cells) (hs : n + N ≤ I.rm.slots)
    (kk : J l I (pc + 3) lv (.ref M.length :: st) (M ++ [.inr (ci, fs)]) (k + 1) (n + N) out) : J l I pc lv st M k n out := by
  intro D cA ad p e s m args below meth c A locs H ls h
  obtain ⟨C, T, ty, h1, h2, h3, h4, h5, h6, h7, h8⟩ := hL
  simp only [Bool.and_eq_true, decide_eq_true_eq] at hst
  have hfs : pokE M.length (.inr (ci, fs)) = true := by
    show fs.all (pok M.length) = true
    exact List.all_eq_true.mpr (fun v hv => pok_mono (Nat.zero_le _) (List.all_eq_true.mp h8 v hv))
  have hfs2 : fs.map (pv ad) = fs := by
    have : ∀ v ∈ fs, pv ad v = v := fun v hv => by
      have := List.all_eq_true.mp h8 v hv
      cases v <;> first | rfl | (simp [pok] at this)
    rw [List.map_congr_left this, List.map_id']
  refine va_new (Ts := u_ws C T N) h.hx h.hb (fun w hw => h.hw.at (h2 w hw).1 (h2 w hw).2 args) (fun w hw => hw) ty h3 h.ho (h.hw.at h4 rfl args) (h.hw.at h5 rfl args) (h.hw.at h6 rfl args) h.hK h.hP h.hD h.hS h.hA h1 h7 hc hs hd (fun q H1 e1 e2 e3 => ?_)
  have ew : pw (adp ad M.length q) cA (M ++ [.inr (ci, fs)]) = pw ad cA M ++ [(q, .inr (ci, fs))] := by
    rw [pw_app hM hfs]
    show _ ++ [(q, Sum.inr (ci, fs.map (pv ad)))] = _
    rw [hfs2]
  obtain ⟨a1, a2, a3, a4, a5, a6, a7, a8, a9, a10, -, -, -, a14, a15, a16⟩ := h
  have hCx : Cx I D cA (adp ad M.length q) p s m args meth c A locs H1 ls lv (M ++ [.inr (ci, fs)]) := ⟨a1, a2, a3, a4, a5, a6, a7, a8, a9, a10, by rw [ew]; exact e1, by rw [ew]; exact e2, e3, ⟨a14.1, a14.2.ad (adp_or (Or.inr hst.2))⟩, a15, by
    rw [List.map_congr_left (fun x hx => by rw [pv_eqX (m := M.length + 1) (fun i hi => adp_or hi) hst.2 (List.all_eq_true.mp hlv x hx)] : ∀ x ∈ lv, (x.1, pv (adp ad M.length q) x.2) = (x.1, pv ad x.2))]
    exact a16⟩
  have hW := kk D cA (adp ad M.length q) p e s m args below meth c A locs H1 ls hCx
  rw [List.map_cons, pv_eqXL (m := M.length + 1) (fun i hi => adp_or hi) hst.2 hst.1] at hW
  have e9 : pv (adp ad M.length q) (.ref M.length) = .ref q := by show Value.ref (adp ad M.length q M.length) = _; rw [adp_at]
  rw [e9] at hW
  exact W_post hW (fun t ht => JQ.shrink (fun i hi => adp_or (by rw [List.length_append] at hi; exact hi)) (by rw [List.length_append]; exact Nat.lt_succ_self _) ht)
/-- which of the three kinds of arrays -/
def a0 (t N : Nat) : vp_A := if t = 2 then (N, .inr (.inl (fun _ => 0))) else (N, .inl (fun _ => 0))
theorem J.newarray {t N : Nat} {atype : ArrayType} {ty : FieldType} (hd : decode I.cc pc = .ok (.newarray atype, 2)) (hty : newarray.typeOf atype = ty) (ht : t = 0 ∧ ty = .int ∨ t = 1 ∧ ty = .boolean ∨ t = 2 ∧ ty = .long) (hw : Cond.arrayClass ty ∈ lw_tbl) (hN : N < 2 ^ 16) (hM : M.all (pokE M.length) = true) (hlv : lv.all (fun q => pkl M.length q.2) = true) (hst : (st.all (pkl M.length) && decide (M.length < 1000)) = true) (hc : k + 1 ≤ I.rm.cells) (hs : n + N ≤ I.rm.slots)
    (kk : J l I (pc + 2) lv (.ref M.length :: st) (M ++ [.inl (t, a0 t N)]) (k + 1) (n + N) out) : J l I pc lv (.int (nI N) :: st) M k n out := by
  intro D cA ad p e s m args below meth c A locs H ls h
  simp only [Bool.and_eq_true, decide_eq_true_eq] at hst
  have hbytes : N * componentBytes ty ≤ 536870912 := by
    rcases ht with ⟨-, rfl⟩ | ⟨-, rfl⟩ | ⟨-, rfl⟩ <;> simp [componentBytes] <;> omega
  have hcell : ∀ c9 : ClassId, vp_cell c9 (a0 t N) = arrV c9 N (fun _ => defaultValue ty) := by
    intro c9
    rcases ht with ⟨rfl, rfl⟩ | ⟨rfl, rfl⟩ | ⟨rfl, rfl⟩ <;> rfl
  refine va_newa (atype := atype) (ty := ty) (a0 := a0 t N) h.hx h.hb (by rw [hty]; exact h.hw.at hw (by rcases ht with ⟨-, rfl⟩ | ⟨-, rfl⟩ | ⟨-, rfl⟩ <;> rfl) args) hty h.hK h.hP h.hD h.hS h.hA hcell (n := nI N) (N' := N) (by rw [Int32.lt_iff_toInt_lt, nI_toInt (by omega), Int32.toInt_zero]; omega) (by
    show (nI N).toInt.toNat = N
    rw [nI_toInt (by omega)]; rfl) hbytes hc hs hd (fun q cq H1 eK e1 e2 e3 => ?_)
  have hcq : cq = cA t := by
    have z1 := (eK.2 3 (cq, ty) rfl).2
    have z2 : va_RA s (cA t) ty := by
      rcases ht with ⟨rfl, rfl⟩ | ⟨rfl, rfl⟩ | ⟨rfl, rfl⟩
      · exact (h.hK.2 0 _ rfl).2
      · exact (h.hK.2 1 _ rfl).2
      · exact (h.hK.2 2 _ rfl).2
    rcases ht with ⟨-, rfl⟩ | ⟨-, rfl⟩ | ⟨-, rfl⟩ <;> exact Option.some.inj (z1.symm.trans z2)
  subst hcq
  have ew : pw (adp ad M.length q) cA (M ++ [.inl (t, a0 t N)]) = pw ad cA M ++ [(q, .inl (cA t, a0 t N))] := pw_app hM rfl
  obtain ⟨a1, a2, a3, a4, a5, a6, a7, a8, a9, a10, -, -, -, a14, a15, a16⟩ := h
  have hCx : Cx I D cA (adp ad M.length q) p s m args meth c A locs H1 ls lv (M ++ [.inl (t, a0 t N)]) := ⟨a1, a2, a3, a4, a5, a6, a7, a8, a9, a10, by rw [ew]; exact e1, by rw [ew]; exact e2, e3, ⟨a14.1, a14.2.ad (adp_or (Or.inr hst.2))⟩, a15, by
    rw [List.map_congr_left (fun x hx => by rw [pv_eqX (m := M.length + 1) (fun i hi => adp_or hi) hst.2 (List.all_eq_true.mp hlv x hx)] : ∀ x ∈ lv, (x.1, pv (adp ad M.length q) x.2) = (x.1, pv ad x.2))]
    exact a16⟩
  have hW := kk D cA (adp ad M.length q) p e s m args below meth c A locs H1 ls hCx
  rw [List.map_cons, pv_eqXL (m := M.length + 1) (fun i hi => adp_or hi) hst.2 hst.1] at hW
  have e9 : pv (adp ad M.length q) (.ref M.length) = .ref q := by show Value.ref (adp ad M.length q M.length) = _; rw [adp_at]
  rw [e9] at hW
  exact W_post hW (fun t ht => JQ.shrink (fun i hi => adp_or (by rw [List.length_append] at hi; exact hi)) (by rw [List.length_append]; exact Nat.lt_succ_self _) ht)
theorem oi_i : Cond.instanceMethod Lib.objectInit ∈ lw_tbl := by decide +kernel
theorem oi_c : Cond.code Lib.objectInit ⟨#[0xb1]⟩ 1 none ∈ lw_tbl := by decide +kernel
theorem J.objInit {index b : Nat} (hd : decode I.cc pc = .ok (.invokespecial index, 3)) (hl : Cond.methodLink I.own index Lib.objectInit ∈ lw_tbl) (hf : 1 ≤ I.rm.frames) (hlo : wsum st + 12 ≤ I.rm.locals)
    (kk : J l I (pc + 3) lv st M k n out) : J l I pc lv (.ref b :: st) M k n out := by
  intro D cA ad p e s m args below meth c A locs H ls h
  exact W.objInit h.hx h.hb h.ho (h.hw.at hl rfl args) (h.hw.at oi_i rfl args) (h.hw.at oi_c rfl args) rfl (h.hl.1.trans h.2.2.1.symm) rfl hd hf (by show 2 * 0 + _ + 12 ≤ _; rw [wsum_pv]; omega) (kk D cA ad p e s m args below meth c A locs H ls h)
end ALLOC
