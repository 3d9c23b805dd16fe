/-! Objects and arrays made; the world's places renamed -/
section ALLOC
variable {l : Launch} {I : MI} {pc : Nat} {lv : List (Nat × Value)} {st : List Value} {M : List va_E} {k n : Nat} {out : Out}
/-- an end for a longer world is one for a shorter -/
theorem JQ.shrink {D : va_G} {cA ad ad' : Nat → Nat} {N N' : Nat} {A : Nat → Prop} {mc ms : Nat} {below : List Frame} {args : Array Value} {s t : State} (h1 : ∀ i, i < N → ad' i = ad i) (h2 : N < N') (h : JQ D cA ad' N' A mc ms below args s out t) : JQ D cA ad N A mc ms below args s out t := by
  cases out with
  | inl r2 =>
    obtain ⟨o, c1, c2, ⟨⟨ad2, d1, d2, d3, d4⟩, c4⟩, c5⟩ := h
    exact ⟨o, c1, c2, ⟨⟨ad2, fun i hi => (d1 i (Nat.lt_trans hi h2)).trans (h1 i hi), fun hz => absurd hz (Nat.ne_of_gt (Nat.lt_of_lt_of_le h2 d3)), Nat.le_trans (Nat.le_of_lt h2) d3, d4⟩, c4⟩, c5⟩
  | inr r2 =>
    obtain ⟨o, c1, c2, ⟨ad2, d1, d2, d3, d4⟩, c4⟩ := h
    exact ⟨o, c1, c2, ⟨ad2, fun i hi => (d1 i (Nat.lt_trans hi h2)).trans (h1 i hi), fun hz => absurd hz (Nat.ne_of_gt (Nat.lt_of_lt_of_le h2 d3)), Nat.le_trans (Nat.le_of_lt h2) d3, d4⟩, c4⟩
theorem W_post {p : Program} {e : Env} {R : Room} {s : State} {m : MethodId} {args : Array Value} {below : List Frame} {meth : Method} {c : Code} {H : Heap} {locs : List Loc} {Q Q' : State → Prop} {g : JFrame} (h : W p l e R s m args below meth c H locs k n Q g) (hQ : ∀ t, Q t → Q' t) : W p l e R s m args below meth c H locs k n Q' g := fun T hT X => by
  obtain ⟨t, a, b⟩ := h T hT X
  exact ⟨t, a, hQ t b⟩
/-- a place more -/
def adp (ad : Nat → Nat) (N q : Nat) : Nat → Nat := fun i => if i = N then q else ad i
theorem adp_lt {ad : Nat → Nat} {N q i : Nat} (h : i < N) : adp ad N q i = ad i := if_neg (Nat.ne_of_lt h)
theorem adp_at {ad : Nat → Nat} {N q : Nat} : adp ad N q N = q := if_pos rfl
theorem pw_app {ad cA : Nat → Nat} {q : Nat} {e : va_E} (hM : M.all (pokE M.length) = true) (he : pokE M.length e = true) : pw (adp ad M.length q) cA (M ++ [e]) = pw ad cA M ++ [(q, pe ad cA e)] := by
  have h0 : pw (adp ad M.length q) cA M = pw ad cA M := pw_eq (fun i hi => adp_lt hi) hM
  have h1 : pw (adp ad M.length q) cA (M ++ [e]) = pw (adp ad M.length q) cA M ++ [(q, pe (adp ad M.length q) cA e)] := by
    unfold pw
    rw [List.mapIdx_append]
    simp [adp]
  rw [h1, h0, pe_eq (fun i hi => adp_lt hi) he]
/-- what a 'new' links -/
def NWL (own : String) (index ci : Nat) (fs : List Value) (N : Nat) : Prop := ∃ (C : String) (T : u_T) (ty : Nat → FieldType), vwCl[ci]? = some (C, T, N) ∧ (∀ w ∈ u_ws C T N, w ∈ lw_tbl ∧ okw w = true) ∧ (∀ k, k < N → parseFieldDescriptor (T k).2.2.1 = some (ty k)) ∧ Cond.classLink own index C ∈ lw_tbl ∧ Cond.instantiable C N ∈ lw_tbl ∧ Cond.initialized C ∈ lw_tbl ∧ (∀ j, j < N → defaultValue (ty j) = vp_V fs j) ∧ fs.all (pok 0) = true
theorem pok_mono {a b : Nat} (h : a ≤ b) {v : Value} (hv : pok a v = true) : pok b v = true := by
  cases v <;> first | rfl | exact decide_eq_true (Nat.lt_of_lt_of_le (of_decide_eq_true hv) h)
theorem J.new {index ci N : Nat} {fs : List Value} (hd : decode I.cc pc = .ok (.new index, 3)) (hL : NWL I.own index ci fs N) (hM : M.all (pokE M.length) = true) (hlv : lv.all (fun q => pok M.length q.2) = true) (hst : st.all (pok M.length) = true) (hc : k + 1 ≤ I.rm.cells) (hs : n + N ≤ I.rm.slots)
    (kk : J l I (pc + 3) lv (.ref M.length :: st) (M ++ [.inr (ci, fs)]) (k + 1) (n + N) out) : J l I pc lv st M k n out := by
  intro D cA ad p e s m args below meth c A locs H ls h
  obtain ⟨C, T, ty, h1, h2, h3, h4, h5, h6, h7, h8⟩ := hL
  have hfs : pokE M.length (.inr (ci, fs)) = true := by
    show fs.all (pok M.length) = true
    exact List.all_eq_true.mpr (fun v hv => pok_mono (Nat.zero_le _) (List.all_eq_true.mp h8 v hv))
  have hfs2 : fs.map (pv ad) = fs := by
    have : ∀ v ∈ fs, pv ad v = v := fun v hv => by
      have := List.all_eq_true.mp h8 v hv
      cases v <;> first | rfl | (simp [pok] at this)
    rw [List.map_congr_left this, List.map_id']
  refine va_new (Ts := u_ws C T N) h.hx h.hb (fun w hw => h.hw.at (h2 w hw).1 (h2 w hw).2 args) (fun w hw => hw) ty h3 h.ho (h.hw.at h4 rfl args) (h.hw.at h5 rfl args) (h.hw.at h6 rfl args) h.hK h.hP h.hD h.hS h.hA h1 h7 hc hs hd (fun q H1 e1 e2 e3 => ?_)
  have ew : pw (adp ad M.length q) cA (M ++ [.inr (ci, fs)]) = pw ad cA M ++ [(q, .inr (ci, fs))] := by
    rw [pw_app hM hfs]
    show _ ++ [(q, Sum.inr (ci, fs.map (pv ad)))] = _
    rw [hfs2]
  obtain ⟨a1, a2, a3, a4, a5, a6, a7, a8, a9, a10, -, -, -, a14, a15, a16⟩ := h
  have hCx : Cx I D cA (adp ad M.length q) p s m args meth c A locs H1 ls lv (M ++ [.inr (ci, fs)]) := ⟨a1, a2, a3, a4, a5, a6, a7, a8, a9, a10, by rw [ew]; exact e1, by rw [ew]; exact e2, e3, a14, a15, by
    rw [List.map_congr_left (fun x hx => by rw [pv_eq (fun i hi => adp_lt hi) (List.all_eq_true.mp hlv x hx)] : ∀ x ∈ lv, (x.1, pv (adp ad M.length q) x.2) = (x.1, pv ad x.2))]
    exact a16⟩
  have hW := kk D cA (adp ad M.length q) p e s m args below meth c A locs H1 ls hCx
  rw [List.map_cons, pv_eqL (fun i hi => adp_lt hi) hst] at hW
  have e9 : pv (adp ad M.length q) (.ref M.length) = .ref q := by show Value.ref (adp ad M.length q M.length) = _; rw [adp_at]
  rw [e9] at hW
  exact W_post hW (fun t ht => JQ.shrink (fun i hi => adp_lt hi) (by rw [List.length_append]; exact Nat.lt_succ_self _) ht)
/-- which of the three kinds of arrays -/
def a0 (t N : Nat) : vp_A := if t = 2 then (N, .inr (.inl (fun _ => 0))) else (N, .inl (fun _ => 0))
theorem J.newarray {t N : Nat} {atype : ArrayType} {ty : FieldType} (hd : decode I.cc pc = .ok (.newarray atype, 2)) (hty : newarray.typeOf atype = ty) (ht : t = 0 ∧ ty = .int ∨ t = 1 ∧ ty = .boolean ∨ t = 2 ∧ ty = .long) (hw : Cond.arrayClass ty ∈ lw_tbl) (hN : N < 2 ^ 16) (hM : M.all (pokE M.length) = true) (hlv : lv.all (fun q => pok M.length q.2) = true) (hst : st.all (pok M.length) = true) (hc : k + 1 ≤ I.rm.cells) (hs : n + N ≤ I.rm.slots)
    (kk : J l I (pc + 2) lv (.ref M.length :: st) (M ++ [.inl (t, a0 t N)]) (k + 1) (n + N) out) : J l I pc lv (.int (nI N) :: st) M k n out := by
  intro D cA ad p e s m args below meth c A locs H ls h
  have hbytes : N * componentBytes ty ≤ 536870912 := by
    rcases ht with ⟨-, rfl⟩ | ⟨-, rfl⟩ | ⟨-, rfl⟩ <;> simp [componentBytes] <;> omega
  have hcell : ∀ c9 : ClassId, vp_cell c9 (a0 t N) = arrV c9 N (fun _ => defaultValue ty) := by
    intro c9
    rcases ht with ⟨rfl, rfl⟩ | ⟨rfl, rfl⟩ | ⟨rfl, rfl⟩ <;> rfl
  refine va_newa (atype := atype) (ty := ty) (a0 := a0 t N) h.hx h.hb (by rw [hty]; exact h.hw.at hw (by rcases ht with ⟨-, rfl⟩ | ⟨-, rfl⟩ | ⟨-, rfl⟩ <;> rfl) args) hty h.hK h.hP h.hD h.hS h.hA hcell (n := nI N) (N' := N) (by rw [Int32.lt_iff_toInt_lt, nI_toInt (by omega), Int32.toInt_zero]; omega) (by
    show (nI N).toInt.toNat = N
    rw [nI_toInt (by omega)]; rfl) hbytes hc hs hd (fun q cq H1 eK e1 e2 e3 => ?_)
  have hcq : cq = cA t := by
    have z1 := (eK.2 3 (cq, ty) rfl).2
    have z2 : va_RA s (cA t) ty := by
      rcases ht with ⟨rfl, rfl⟩ | ⟨rfl, rfl⟩ | ⟨rfl, rfl⟩
      · exact (h.hK.2 0 _ rfl).2
      · exact (h.hK.2 1 _ rfl).2
      · exact (h.hK.2 2 _ rfl).2
    rcases ht with ⟨-, rfl⟩ | ⟨-, rfl⟩ | ⟨-, rfl⟩ <;> exact Option.some.inj (z1.symm.trans z2)
  subst hcq
  have ew : pw (adp ad M.length q) cA (M ++ [.inl (t, a0 t N)]) = pw ad cA M ++ [(q, .inl (cA t, a0 t N))] := pw_app hM rfl
  obtain ⟨a1, a2, a3, a4, a5, a6, a7, a8, a9, a10, -, -, -, a14, a15, a16⟩ := h
  have hCx : Cx I D cA (adp ad M.length q) p s m args meth c A locs H1 ls lv (M ++ [.inl (t, a0 t N)]) := ⟨a1, a2, a3, a4, a5, a6, a7, a8, a9, a10, by rw [ew]; exact e1, by rw [ew]; exact e2, e3, a14, a15, by
    rw [List.map_congr_left (fun x hx => by rw [pv_eq (fun i hi => adp_lt hi) (List.all_eq_true.mp hlv x hx)] : ∀ x ∈ lv, (x.1, pv (adp ad M.length q) x.2) = (x.1, pv ad x.2))]
    exact a16⟩
  have hW := kk D cA (adp ad M.length q) p e s m args below meth c A locs H1 ls hCx
  rw [List.map_cons, pv_eqL (fun i hi => adp_lt hi) hst] at hW
  have e9 : pv (adp ad M.length q) (.ref M.length) = .ref q := by show Value.ref (adp ad M.length q M.length) = _; rw [adp_at]
  rw [e9] at hW
  exact W_post hW (fun t ht => JQ.shrink (fun i hi => adp_lt hi) (by rw [List.length_append]; exact Nat.lt_succ_self _) ht)
theorem oi_i : Cond.instanceMethod Lib.objectInit ∈ lw_tbl := by decide +kernel
theorem oi_c : Cond.code Lib.objectInit ⟨#[0xb1]⟩ 1 none ∈ lw_tbl := by decide +kernel
theorem J.objInit {index b : Nat} (hd : decode I.cc pc = .ok (.invokespecial index, 3)) (hl : Cond.methodLink I.own index Lib.objectInit ∈ lw_tbl) (hf : 1 ≤ I.rm.frames) (hlo : wsum st + 12 ≤ I.rm.locals)
    (kk : J l I (pc + 3) lv st M k n out) : J l I pc lv (.ref b :: st) M k n out := by
  intro D cA ad p e s m args below meth c A locs H ls h
  exact W.objInit h.hx h.hb h.ho (h.hw.at hl rfl args) (h.hw.at oi_i rfl args) (h.hw.at oi_c rfl args) rfl (h.hl.1.trans h.2.2.1.symm) rfl hd hf (by show 2 * 0 + _ + 12 ≤ _; rw [wsum_pv]; omega) (kk D cA ad p e s m args below meth c A locs H ls h)
/-- places renamed -/
def rv (σ : Nat → Nat) : Value → Value
  | .ref k => .ref (σ k)
  | v => v
def re (σ : Nat → Nat) : va_E → va_E
  | .inl x => .inl x
  | .inr o => .inr (o.1, o.2.map (rv σ))
def Ren (σ : Nat → Nat) (M M' : List va_E) : Prop := M'.length = M.length ∧ ∀ i, M'[σ i]? = (M[i]?).map (re σ)
theorem rv_pv {σ τ ad : Nat → Nat} (h : ∀ i, τ (σ i) = i) (v : Value) : pv (fun i => ad (τ i)) (rv σ v) = pv ad v := by
  cases v <;> first | rfl | (show Value.ref (ad (τ (σ _))) = Value.ref (ad _); rw [h])
theorem rv_pvL {σ τ ad : Nat → Nat} (h : ∀ i, τ (σ i) = i) (vs : List Value) : (vs.map (rv σ)).map (pv (fun i => ad (τ i))) = vs.map (pv ad) := by
  rw [List.map_map]
  exact List.map_congr_left (fun v _ => rv_pv h v)
theorem re_pe {σ τ ad cA : Nat → Nat} (h : ∀ i, τ (σ i) = i) (e : va_E) : pe (fun i => ad (τ i)) cA (re σ e) = pe ad cA e := by
  cases e with
  | inl x => rfl
  | inr o => show Sum.inr (o.1, (o.2.map (rv σ)).map _) = Sum.inr (o.1, o.2.map (pv ad)); rw [rv_pvL h]
theorem Ren.at {σ τ ad cA : Nat → Nat} {M M' : List va_E} (hR : Ren σ M M') (h : ∀ i, τ (σ i) = i) (i : Nat) : (pw (fun i => ad (τ i)) cA M')[σ i]? = (pw ad cA M)[i]? := by
  unfold pw
  rw [List.getElem?_mapIdx, List.getElem?_mapIdx, hR.2 i]
  cases M[i]? with
  | none => rfl
  | some e => show some (ad (τ (σ i)), pe _ cA (re σ e)) = some (ad i, pe ad cA e); rw [h, re_pe h]
theorem Ren.P {σ τ ad cA : Nat → Nat} {M M' : List va_E} {D : va_G} {H : Heap} (hR : Ren σ M M') (h : ∀ i, τ (σ i) = i) (h' : ∀ i, σ (τ i) = i) : va_P D vwCl (pw (fun i => ad (τ i)) cA M') H ↔ va_P D vwCl (pw ad cA M) H := by
  constructor
  · intro hp j q hj
    exact hp (σ j) q (by rw [hR.at h]; exact hj)
  · intro hp j q hj
    refine hp (τ j) q ?_
    rw [← hR.at (ad := ad) (cA := cA) h, h']
    exact hj
theorem Ren.D {σ τ ad cA : Nat → Nat} {M M' : List va_E} {A : Nat → Prop} (hR : Ren σ M M') (h : ∀ i, τ (σ i) = i) (h' : ∀ i, σ (τ i) = i) : va_D A (pw (fun i => ad (τ i)) cA M') ↔ va_D A (pw ad cA M) := by
  have fw : ∀ {i q}, (pw ad cA M)[i]? = some q → (pw (fun i => ad (τ i)) cA M')[σ i]? = some q := fun hq => by rw [hR.at h]; exact hq
  have bw : ∀ {j q}, (pw (fun i => ad (τ i)) cA M')[j]? = some q → (pw ad cA M)[τ j]? = some q := fun {j q} hq => by rw [← hR.at (ad := ad) (cA := cA) h, h']; exact hq
  constructor
  · rintro ⟨h1, h2⟩
    refine ⟨fun i j a b hi hj hab => ?_, fun i q hi => h2 _ q (fw hi)⟩
    have := congrArg τ (h1 _ _ a b (fw hi) (fw hj) hab)
    rwa [h, h] at this
  · rintro ⟨h1, h2⟩
    refine ⟨fun i j a b hi hj hab => ?_, fun i q hi => h2 _ q (bw hi)⟩
    have := congrArg σ (h1 _ _ a b (bw hi) (bw hj) hab)
    rwa [h', h'] at this
theorem J.ren {σ τ : Nat → Nat} {M' Mf Mf' : List va_E} {v : Option Value} (h : ∀ i, τ (σ i) = i) (h' : ∀ i, σ (τ i) = i) (hn : ∀ i, i < M.length ↔ σ i < M.length) (hR : Ren σ M M') (hRf : Ren σ Mf Mf')
    (kk : J l I pc (lv.map (fun q => (q.1, rv σ q.2))) (st.map (rv σ)) M' k n (.inl (v.map (rv σ), Mf'))) : J l I pc lv st M k n (.inl (v, Mf)) := by
  intro D cA ad p e s m args below meth c A locs H ls hx
  obtain ⟨a1, a2, a3, a4, a5, a6, a7, a8, a9, a10, a11, a12, a13, a14, a15, a16⟩ := hx
  have elv : (lv.map (fun q => (q.1, rv σ q.2))).map (fun q => (q.1, pv (fun i => ad (τ i)) q.2)) = lv.map (fun q => (q.1, pv ad q.2)) := by
    rw [List.map_map]
    exact List.map_congr_left (fun q _ => by show (q.1, pv _ (rv σ q.2)) = _; rw [rv_pv h])
  have hCx : Cx I D cA (fun i => ad (τ i)) p s m args meth c A locs H ls (lv.map (fun q => (q.1, rv σ q.2))) M' := ⟨a1, a2, a3, a4, a5, a6, a7, a8, a9, a10, (hR.P h h').mpr a11, (hR.D h h').mpr a12, a13, a14, a15, by rw [elv]; exact a16⟩
  have hW := kk D cA (fun i => ad (τ i)) p e s m args below meth c A locs H ls hCx
  rw [rv_pvL h] at hW
  refine W_post hW (fun t ht => ?_)
  obtain ⟨o, c1, c2, ⟨⟨ad2, d1, d2, d3, d4, d5, d6, d7⟩, c4⟩, c5⟩ := ht
  have e2 : (fun i => (fun i => ad2 (σ i)) (τ i)) = ad2 := by funext i; show ad2 (σ (τ i)) = _; rw [h']
  refine ⟨o, c1, c2, ⟨⟨fun i => ad2 (σ i), fun i hi => ?_, fun hz => ?_, ?_, ?_, ?_, d6, ?_⟩, c4⟩, c5⟩
  · have := d1 (σ i) (by rw [hR.1]; exact (hn i).mp hi)
    show ad2 (σ i) = ad i
    rw [this]
    show ad (τ (σ i)) = ad i
    rw [h]
  · have := d2 (hRf.1.trans (hz.trans hR.1.symm))
    funext i
    show ad2 (σ i) = ad i
    rw [this]
    show ad (τ (σ i)) = ad i
    rw [h]
  · rw [← hRf.1, ← hR.1]; exact d3
  · rw [d4]
    cases v with
    | none => rfl
    | some w =>
      show Outcome.returned (some (pv ad2 (rv σ w))) = Outcome.returned (some (pv (fun i => ad2 (σ i)) w))
      rw [← rv_pv (ad := fun i => ad2 (σ i)) h w, e2]
  · have := (hRf.P (ad := fun i => ad2 (σ i)) (cA := cA) (D := D) (H := t.heap) h h').mp
    rw [e2] at this
    exact this d5
  · have := (hRf.D (ad := fun i => ad2 (σ i)) (cA := cA) (A := A) h h').mp
    rw [e2] at this
    exact this d7
end ALLOC
