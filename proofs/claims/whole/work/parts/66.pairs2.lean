section PAIRS2
variable {l : Launch} {K Mo L dl ol co : Nat} {xs : Nat → Int32} {dr ou da eq al us by_ ln pl ou2 rd sp rw : Nat → Nat} {f : Nat → Int64}
theorem nob (d s i : Int32) : noB d s i ∨ ∃ d' s' i', (d' < 8 ∧ s' < 10 ∧ i' < 4) ∧ d = nI d' ∧ s = nI s' ∧ i = nI i' := by
  rcases rng (m := 8) (by decide) d with h | h | ⟨d', hd, rfl⟩
  · exact Or.inl (Or.inl (Or.inl h))
  · exact Or.inl (Or.inl (Or.inr h))
  · rcases rng (m := 10) (by decide) s with h | h | ⟨s', hs, rfl⟩
    · exact Or.inl (Or.inr ⟨⟨d', hd, rfl⟩, Or.inl h⟩)
    · exact Or.inl (Or.inr ⟨⟨d', hd, rfl⟩, Or.inr (Or.inl h)⟩)
    · rcases rng (m := 4) (by decide) i with h | h | ⟨i', hi, rfl⟩
      · exact Or.inl (Or.inr ⟨⟨d', hd, rfl⟩, Or.inr (Or.inr (Or.inl h))⟩)
      · exact Or.inl (Or.inr ⟨⟨d', hd, rfl⟩, Or.inr (Or.inr (Or.inr h))⟩)
      · exact Or.inr ⟨d', s', i', ⟨hd, hs, hi⟩, rfl, rfl, rfl⟩
theorem sp_stored (hl : l.stackTraces = false) (h : (LJ K Mo dr dl ou ol da eq al us by_ ln pl ou2 sp rw)) (x y z : Int32) : Sp l i_L_stored i_R_stored [.int x, .int y, .int z] K Mo L xs (LM K Mo L xs dr dl ou ol da eq al us by_ ln pl co ou2 rd sp rw f) := by
  obtain ⟨i1, i2, i3, i4, i5, i6, i7, i8, i9, i10⟩ := id h
  rcases nob x y z with hx | ⟨d, s, i, ⟨hd, hs, hi⟩, rfl, rfl, rfl⟩
  · exact Sp_mk (h1_L_stored (con_V_stored0 hl hx) rfl rfl) (con_R_stored0 hx) (n1z (Or.inl rfl)) h
  · rcases (show us (10 * d + s) = 0 ∨ us (10 * d + s) = 1 by have := i1.1.1 (10 * d + s); dsimp only at this; omega) with hu | hu
    · exact Sp_mk (h2_L_stored (con_V_stored2 hl hd hs hi i1.1.1 hu) rfl rfl) (con_R_stored2 hd hs hi hu) (n1z (Or.inr rfl)) h
    · exact Sp_mk (f := vp_updL f 0 (nI (by_ (4 * (10 * d + s) + i))).toInt64) (hz_L_stored (f := f) (con_V_stored1 hd hs hi i1.1.1 hu) rfl rfl rfl) (con_R_stored1 hd hs hi hu) (fun _ => rfl) h
theorem xor256 {a b : Nat} (ha : a < 256) (hb : b < 256) : a ^^^ b < 256 := Nat.xor_lt_two_pow (n := 8) ha hb
theorem sp_harm (hl : l.stackTraces = false) (h : (LJ K Mo dr dl ou ol da eq al us by_ ln pl ou2 sp rw)) (x y z w : Int32) : Sp l i_L_harm i_R_harm [.int x, .int y, .int z, .int w] K Mo L xs (LM K Mo L xs dr dl ou ol da eq al us by_ ln pl co ou2 rd sp rw f) := by
  obtain ⟨i1, i2, i3, i4, i5, i6, i7, i8, i9, i10⟩ := id h
  rcases nob x y z with hx | ⟨d, s, i, ⟨hd, hs, hi⟩, rfl, rfl, rfl⟩
  · exact Sp_mk (h1_L_harm (con_V_harm0 hl hx) rfl rfl) (con_R_harm0 hx) (n1z (Or.inl rfl)) h
  · rcases (show us (10 * d + s) = 0 ∨ us (10 * d + s) = 1 by have := i1.1.1 (10 * d + s); dsimp only at this; omega) with hu | hu
    · exact Sp_mk (h2_L_harm (con_V_harm2 hl hd hs hi i1.1.1 hu) rfl rfl) (con_R_harm2 hd hs hi hu) (n1z (Or.inr rfl)) h
    · have c1 := con_V_harm1 (l := l) (K := K) (Mo := Mo) (dr := dr) (dl := dl) (ou := ou) (ol := ol) (da := da) (eq := eq) (al := al) (by_ := by_) (ln := ln) (pl := pl) (X := (LT K Mo co dr dl al us by_ ln pl ol ou2 rd sp rw ([lc f]))) (x := w) hd hs hi i1.1.1 hu
      have c2 := fun P f => con_R_harm1 (l := l) (P := P) (K := K) (Mo := Mo) (co := co) (dr := dr) (sz := dl) (al := al) (by_ := by_) (ln := ln) (pl := pl) (os := ol) (ou := ou2) (rd := rd) (sp := sp) (rw := rw) (Y := [lc f]) (x := w) hd hs hi hu
      have hv : by_ (4 * (10 * d + s) + i) ^^^ (w.toBitVec.toNat % 256) < 256 := xor256 (i1.1.2.1 _) (Nat.mod_lt _ (by decide))
      generalize by_ (4 * (10 * d + s) + i) ^^^ (w.toBitVec.toNat % 256) = v at c1 c2 hv
      exact Sp_mk (f := vp_updL f 0 (nI v).toInt64) (hz_L_harm (f := f) c1 rfl rfl rfl) (c2 _ _) (fun _ => rfl) ⟨⟨⟨i1.1.1, fun q => up_lt i1.1.2.1 hv q, i1.1.2.2⟩, i1.2⟩, i2, i3, i4, i5, i6, i7, i8, i9, i10⟩
theorem sp_where (hl : l.stackTraces = false) (hK : 0 < K) (hK4 : K ≤ 4) (hM : Mo ≤ 3) (h : (LJ K Mo dr dl ou ol da eq al us by_ ln pl ou2 sp rw)) (x y z : Int32) : Sp l i_L_where i_R_where [.int x, .int y, .int z] K Mo L xs (LM K Mo L xs dr dl ou ol da eq al us by_ ln pl co ou2 rd sp rw f) := by
  obtain ⟨i1, i2, i3, i4, i5, i6, i7, i8, i9, i10⟩ := id h
  rcases obj ln x with hx | ⟨o, ho, rfl, hlo⟩
  · exact Sp_mk (h1_L_where (con_V_where0 hl hx) rfl rfl) (con_R_where0 hx) (n1z (Or.inl rfl)) h
  · have hn8 := ns_le hK (i5 o)
    have no : (y < 0 ∨ nI (ns K (ln o)) ≤ y ∨ z < 0 ∨ nI (K + Mo) ≤ z) → Sp l i_L_where i_R_where [.int (nI o), .int y, .int z] K Mo L xs (LM K Mo L xs dr dl ou ol da eq al us by_ ln pl co ou2 rd sp rw f) := fun hx => Sp_mk (h2_L_where (con_V_where2 hl hK hK4 ho hlo (i5 o) hx) rfl rfl) (con_R_where2 hK hK4 ho hlo (i5 o) hx) (n1z (Or.inr rfl)) h
    rcases rng (m := ns K (ln o)) (by omega) y with hy | hy | ⟨s, hs, rfl⟩
    · exact no (Or.inl hy)
    · exact no (Or.inr (Or.inl hy))
    · rcases rng (m := K + Mo) (by omega) z with hz | hz | ⟨q, hq, rfl⟩
      · exact no (Or.inr (Or.inr (Or.inl hz)))
      · exact no (Or.inr (Or.inr (Or.inr hz)))
      · exact Sp_mk (f := vp_updL f 0 (pI (tr (pl (56 * o + 7 * s + q)))).toInt64) (hz_L_where (f := f) (con_V_where1 hK hK4 (by omega) ho hlo (i5 o) hs hq) rfl rfl rfl) (con_R_where1 hK hK4 (by omega) i1.1.2.2 ho hlo (i5 o) hs hq) (fun _ => rfl) h
theorem sp_product (hl : l.stackTraces = false) (h : (LJ K Mo dr dl ou ol da eq al us by_ ln pl ou2 sp rw)) (a b : Int32) : Sp l i_L_product i_R_product [.int a, .int b] K Mo L xs (LM K Mo L xs dr dl ou ol da eq al us by_ ln pl co ou2 rd sp rw f) := by
  have no : noP a b → Sp l i_L_product i_R_product [.int a, .int b] K Mo L xs (LM K Mo L xs dr dl ou ol da eq al us by_ ln pl co ou2 rd sp rw f) := fun hx => Sp_mk (h1_L_product (con_V_prod0 hl hx) rfl rfl) (con_R_prod0 hx) (n1z (Or.inl rfl)) h
  rcases rng (m := 256) (by decide) a with ha | ha | ⟨a', ha, rfl⟩
  · exact no (Or.inl (Or.inl ha))
  · exact no (Or.inl (Or.inr ha))
  · by_cases hb1 : b = pI 0
    · subst hb1
      by_cases h0 : a' = 0
      · subst h0
        exact Sp_mk (h2_L_product (con_V_prodZ hl) rfl rfl) con_R_prod2 (n1z (Or.inr rfl)) h
      · exact Sp_mk (f := vp_updL f 0 (nI (gi a')).toInt64) (hz_L_product (f := f) (con_V_prodI ha (by omega)) rfl rfl rfl) (con_R_prodI (by omega) ha) (fun _ => rfl) h
    · rcases rng (m := 256) (by decide) b with hb | hb | ⟨b', hb, rfl⟩
      · exact no (Or.inr ⟨⟨a', ha, rfl⟩, Or.inl hb, hb1⟩)
      · exact no (Or.inr ⟨⟨a', ha, rfl⟩, Or.inr hb, hb1⟩)
      · exact Sp_mk (f := vp_updL f 0 (nI (gm a' b')).toInt64) (hz_L_product (f := f) (con_V_prodT ha hb) rfl rfl rfl) (con_R_prod1 ha hb) (fun _ => rfl) h
theorem sp_get (hl : l.stackTraces = false) (hK : 0 < K) (hK4 : K ≤ 4) (hM0 : 0 < Mo) (hM : Mo ≤ 3) (h : (LJ K Mo dr dl ou ol da eq al us by_ ln pl ou2 sp rw)) (x : Int32) : Sp l i_L_get i_R_get [.int x] K Mo L xs (LM K Mo L xs dr dl ou ol da eq al us by_ ln pl co ou2 rd sp rw f) := by
  obtain ⟨i1, i2, i3, i4, i5, i6, i7, i8, i9, i10⟩ := id h
  rcases obj ln x with hx | ⟨o, ho, rfl, hlo⟩
  · exact Sp_mk (h1_L_get (con_V_get0 hl hx) rfl rfl) (con_R_get0 hx) (n1z (Or.inl rfl)) h
  · cases hg : anyB (gn pl Mo o (K + Mo)) (ns K (ln o)) with
    | true =>
      obtain ⟨z', rd', hz', c2⟩ := con_R_get2 (l := l) (P := PF (CA K Mo dr dl ou ol da eq al us by_ ln pl [])) (co := co) (dr := dr) (sz := dl) (al := al) (us := us) (os := ol) (ou := ou2) (rd := rd) (Y := [lc f]) i10 hK hK4 hM0 hM ho i1.1.2.2 i1.1.2.1 hlo (i5 o) hg
      exact Sp_mk (h2_L_get (con_V_get2 hl hK hK4 hM ho i1.1.2.2 hlo (i5 o) hg) rfl rfl) c2 (n1z (Or.inr rfl)) ⟨i1, i2, i3, i4, i5, i6, i7, i8, i9, hz'⟩
    | false =>
      have c1 := con_V_get1 (l := l) (dr := dr) (dl := dl) (ou := ou) (ol := ol) (al := al) (us := us) (X := (LT K Mo co dr dl al us by_ ln pl ol ou2 rd sp rw ([lc f]))) i9 i8 hK hK4 hM0 hM ho i1.1.2.2 i1.1.2.1 hlo (i5 o) hg
      have e := gtS_out (x := ((eq, da), ou)) (pl := pl) (by_ := by_) (o := o) ⟨i9, i8⟩ i1.1.2.1 hK hK4 hM0 hM (ns K (ln o)) (fun s hs => by
        have := anyB_false _ hg s hs
        unfold gn at this
        have := of_decide_eq_false this
        omega)
      have hb := gtS_b (K := K) (Mo := Mo) (x := ((eq, da), ou)) (pl := pl) (by_ := by_) (o := o) ⟨i9, i8⟩ i1.1.2.1 (ns K (ln o))
      have hcov := ns_cover (K := K) (n := ln o) hK
      generalize gtS K Mo pl by_ o ((eq, da), ou) (ns K (ln o)) = y at c1 e hb
      obtain ⟨z', rd', ou', hz', he', c2⟩ := con_R_get1 (l := l) (P := PF (CA K Mo dr dl (y.2) (ln o) (y.1.2) (y.1.1) al us by_ ln pl [])) (co := co) (dr := dr) (sz := dl) (al := al) (us := us) (os := ol) (ou := ou2) (rd := rd) (Y := [lc (vp_updL f 0 (nI (ln o)).toInt64)]) i10 hK hK4 hM0 hM ho i1.1.2.2 i1.1.2.1 hlo (i5 o) hg
      have h32 := i5 o
      exact Sp_mk (f := vp_updL f 0 (nI (ln o)).toInt64) (hz_L_get (f := f) c1 rfl rfl rfl) c2 (fun _ => rfl) ⟨i1, i2, i3, i4, i5, i5 o, fun q hq => by rw [he' q hq]; exact e q (by omega) (by omega), hb.2, hb.1, hz'⟩
end PAIRS2
