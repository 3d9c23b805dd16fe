section PAIRS3
variable {l : Launch} {K Mo L dl ol co : Nat} {xs : Nat → Int32} {dr ou da eq al us by_ ln pl ou2 rd sp rw : Nat → Nat} {f : Nat → Int64}
theorem noS_or (ln : Nat → Nat) (dl : Nat) (x : Int32) : noS ln dl x ∨ ∃ o, o < 6 ∧ x = nI o ∧ ln o = 0 ∧ 0 < dl := by
  rcases rng (m := 6) (by decide) x with h | h | ⟨o, ho, hx⟩
  · exact Or.inl (Or.inl (Or.inl h))
  · exact Or.inl (Or.inl (Or.inr h))
  · by_cases h0 : 0 < ln o ∨ dl = 0
    · exact Or.inl (Or.inr ⟨o, ho, hx, h0⟩)
    · exact Or.inr ⟨o, ho, hx, by omega, by omega⟩
theorem sp_store (hl : l.stackTraces = false) (hK : 0 < K) (hK4 : K ≤ 4) (hM : Mo ≤ 3) (h : (LJ K Mo dr dl ou ol da eq al us by_ ln pl ou2 sp rw)) (x : Int32) : Sp l i_L_store i_R_store [.int x] K Mo L xs (LM K Mo L xs dr dl ou ol da eq al us by_ ln pl co ou2 rd sp rw f) := by
  obtain ⟨i1, i2, i3, i4, i5, i6, i7, i8, i9, i10⟩ := id h
  rcases noS_or ln dl x with hx | ⟨o, ho, rfl, h0, hd0⟩
  · exact Sp_mk (h1_L_store (con_V_store0 hl i5 i4 hx) rfl rfl) (con_R_store0 i5 i4 hx) (n1z (Or.inl rfl)) h
  · have hz : ∀ i, i < 56 → pl (56 * o + i) = 0 := fun i hi => ZS_obj i1.2.2.2 hK ho h0 hi
    have hn8 := ns_le hK i4
    obtain ⟨e1, e2⟩ := pdP_eq (K := K) (dr := dr) (dl := dl) (al := al) (o := o) (Sh := K + Mo) (da := da) (x := (us, by_, pl)) (ns K dl)
    have hda := (pdS_ok (K := K) (dl := dl) (al := al) (o := o) (Sh := K + Mo) i1.1 i3 i8 (ns K dl)).2
    have hI1 : IV K Mo (up ln o dl) (us, by_, pl) := IV_ln i1 hK h0
    have hI := (IV_pdP (dr := dr) (al := al) (dl := dl) hI1 (by omega) ho (by rw [up_self]; exact hn8) i3 hz (ns K dl) (by rw [up_self]; exact Nat.le_refl _)).1
    by_cases hp : (pdP K dr dl al o (K + Mo) (us, by_, pl) (ns K dl)).1 = 0
    · have hR : okR (0, (pd K Mo dr dl al o da us by_ pl).2.2.1, (pd K Mo dr dl al o da us by_ pl).2.2.2.2) := by
        show okR (0, (pdS K dr dl al o (K + Mo) da (us, by_, pl) (ns K dl)).2.2.1, (pdS K dr dl al o (K + Mo) da (us, by_, pl) (ns K dl)).2.2.2.2)
        rw [e2]
        exact IV_okR hI 0
      have c1 := con_V_store2 (l := l) (K := K) (Mo := Mo) (ou := ou) (ol := ol) (eq := eq) (X := (LT K Mo co dr dl al us by_ ln pl ol ou2 rd sp rw ([lc f]))) hl i1.1 hK hK4 hM ho i2 i8 i3 i4 h0 hd0 (e1.trans hp) hR
      obtain ⟨sp', hsp, c2⟩ := con_R_store2 (l := l) (P := PF (CA K Mo dr dl ou ol ((pdS K dr dl al o (K + Mo) da (us, by_, pl) (ns K dl)).2.1) eq al ((clS o (0, (pdP K dr dl al o (K + Mo) (us, by_, pl) (ns K dl)).2.1, (pdP K dr dl al o (K + Mo) (us, by_, pl) (ns K dl)).2.2.2) 56).2.1) ((pdP K dr dl al o (K + Mo) (us, by_, pl) (ns K dl)).2.2.1) (up (up ln o dl) o 0) ((clS o (0, (pdP K dr dl al o (K + Mo) (us, by_, pl) (ns K dl)).2.1, (pdP K dr dl al o (K + Mo) (us, by_, pl) (ns K dl)).2.2.2) 56).2.2) [])) (co := co) (os := ol) (ou := ou2) (rd := rd) (rw := rw) (Y := [lc f]) i1.1 i10.2 hK hK4 hM ho i2 i3 i4 h0 hd0 hz hp
      have e3 := cl_eq (x := (0, (pdP K dr dl al o (K + Mo) (us, by_, pl) (ns K dl)).2.1, (pdP K dr dl al o (K + Mo) (us, by_, pl) (ns K dl)).2.2.2)) hI.2.2.2 (by omega) ho (by rw [up_self]; exact hn8)
      rw [up_self] at e3
      have hI2 := IV_clear hI ho 0
      have hpd : pd K Mo dr dl al o da us by_ pl = pdS K dr dl al o (K + Mo) da (us, by_, pl) (ns K dl) := rfl
      rw [hpd, e2, ← e3] at c1
      generalize clS o (0, (pdP K dr dl al o (K + Mo) (us, by_, pl) (ns K dl)).2.1, (pdP K dr dl al o (K + Mo) (us, by_, pl) (ns K dl)).2.2.2) 56 = y at c1 c2 hI2
      generalize pdP K dr dl al o (K + Mo) (us, by_, pl) (ns K dl) = w at c1 c2 hI2
      generalize pdS K dr dl al o (K + Mo) da (us, by_, pl) (ns K dl) = v at c1 c2 hda
      exact Sp_mk (h2_L_store c1 rfl rfl) c2 (n1z (Or.inr rfl)) ⟨hI2, i2, i3, i4, up_le (up_le i5 i4) (by decide), i6, i7, hda, i9, ⟨i10.1, hsp⟩⟩
    · have c1 := con_V_store1 (l := l) (K := K) (Mo := Mo) (ou := ou) (ol := ol) (eq := eq) (X := (LT K Mo co dr dl al us by_ ln pl ol ou2 rd sp rw ([lc f]))) i1.1 hK hK4 hM ho i2 i8 i3 i4 h0 hd0 (fun z => hp (e1.symm.trans z))
      obtain ⟨sp', hsp, c2⟩ := con_R_store1 (l := l) (P := PF (CA K Mo dr 0 ou ol ((pdS K dr dl al o (K + Mo) da (us, by_, pl) (ns K dl)).2.1) eq al ((pdP K dr dl al o (K + Mo) (us, by_, pl) (ns K dl)).2.1) ((pdP K dr dl al o (K + Mo) (us, by_, pl) (ns K dl)).2.2.1) (up ln o dl) ((pdP K dr dl al o (K + Mo) (us, by_, pl) (ns K dl)).2.2.2) [])) (co := co) (os := ol) (ou := ou2) (rd := rd) (rw := rw) (Y := [lc (vp_updL f 0 (nI (ns K dl)).toInt64)]) i1.1 i10.2 hK hK4 hM ho i2 i3 i4 h0 hd0 hz hp
      have hpd : pd K Mo dr dl al o da us by_ pl = pdS K dr dl al o (K + Mo) da (us, by_, pl) (ns K dl) := rfl
      rw [hpd, e2] at c1
      generalize pdP K dr dl al o (K + Mo) (us, by_, pl) (ns K dl) = w at c1 c2 hI
      generalize pdS K dr dl al o (K + Mo) da (us, by_, pl) (ns K dl) = v at c1 c2 hda
      exact Sp_mk (f := vp_updL f 0 (nI (ns K dl)).toInt64) (hz_L_store (f := f) c1 rfl rfl rfl) c2 (fun _ => rfl) ⟨hI, i2, i3, Nat.zero_le _, up_le i5 i4, i6, i7, hda, i9, ⟨i10.1, hsp⟩⟩
theorem sq_repair (hK : 0 < K) (hK4 : K ≤ 4) (hM0 : 0 < Mo) (hM : Mo ≤ 3) (h : (LJ K Mo dr dl ou ol da eq al us by_ ln pl ou2 sp rw)) : Sq l i_V_repair i_R_repair [] K Mo L xs (LM K Mo L xs dr dl ou ol da eq al us by_ ln pl co ou2 rd sp rw f) := by
  obtain ⟨i1, i2, i3, i4, i5, i6, i7, i8, i9, i10⟩ := id h
  have hq : okQ ((eq, da), 0, us, by_, pl) := ⟨⟨i9, i8⟩, i1.1⟩
  have c1 := con_V_repair (l := l) (dr := dr) (dl := dl) (ou := ou) (ol := ol) (X := (LT K Mo co dr dl al us by_ ln pl ol ou2 rd sp rw ([lc f]))) i1.1 i9 i8 hK hK4 hM0 hM i2 i5
  have e := roP_eq (al := al) hK hK4 hM0 hM hq i5 6
  have hb := (rpo_ok (Mo := Mo) (al := al) hK (by omega) i5 hq 6).1.1
  have hI := IV_roP (al := al) (x := (0, us, by_, pl)) i1 hK hK4 hM0 hM i5 6 (Nat.le_refl _)
  obtain ⟨z', hz', c2⟩ := con_R_repair (l := l) (P := PF (CA K Mo dr dl ou ol ((rpo K Mo al ln ((eq, da), 0, us, by_, pl) 6).1.2) ((rpo K Mo al ln ((eq, da), 0, us, by_, pl) 6).1.1) al ((roP K Mo al ln (0, us, by_, pl) 6).2.1) ((roP K Mo al ln (0, us, by_, pl) 6).2.2.1) ln ((roP K Mo al ln (0, us, by_, pl) 6).2.2.2) [])) (co := co) (dr := dr) (sz := dl) (os := ol) (ou := ou2) (rd := rd) (Y := [lc f]) i1.1 i10 hK hK4 hM0 hM i2 i5
  rw [e] at c1
  dsimp only at c1
  generalize roP K Mo al ln (0, us, by_, pl) 6 = w at c1 c2 hI
  generalize rpo K Mo al ln ((eq, da), 0, us, by_, pl) 6 = v at c1 c2 hb
  exact Sq_mk c1 c2 ⟨hI, i2, i3, i4, i5, i6, i7, hb.2, hb.1, hz'⟩
theorem noQ_or (dl : Nat) (x : Int32) : noQ dl x ∨ ∃ n, 1 ≤ n ∧ n ≤ 8 ∧ x = nI n ∧ dl + n ≤ 32 := by
  by_cases h1 : x < nI 1
  · exact Or.inl (Or.inl h1)
  · by_cases h2 : nI 8 < x
    · exact Or.inl (Or.inr (Or.inl h2))
    · rcases rng (m := 9) (by decide) x with h | h | ⟨o, ho, rfl⟩
      · exact absurd (Int32.lt_trans h (by decide)) h1
      · exfalso
        apply h2
        rw [Int32.lt_iff_toInt_lt]
        rw [Int32.le_iff_toInt_le] at h
        have e1 : (nI 9).toInt = 9 := by decide
        have e2 : (nI 8).toInt = 8 := by decide
        omega
      · have ho1 : 1 ≤ o := by
          rcases Nat.eq_zero_or_pos o with z | z
          · subst z; exact absurd (by decide) h1
          · exact z
        by_cases h3 : dl + o ≤ 32
        · exact Or.inr ⟨o, ho1, by omega, rfl, h3⟩
        · exact Or.inl (Or.inr (Or.inr ⟨o, ho1, by omega, rfl, by omega⟩))
theorem sq_put (h : (LJ K Mo dr dl ou ol da eq al us by_ ln pl ou2 sp rw)) (x : Int32) (c : Int64) : Sq l i_V_put i_R_put [.int x, .long c] K Mo L xs (LM K Mo L xs dr dl ou ol da eq al us by_ ln pl co ou2 rd sp rw f) := by
  obtain ⟨i1, i2, i3, i4, i5, i6, i7, i8, i9, i10⟩ := id h
  rcases noQ_or dl x with hx | ⟨n, h1, h8, rfl, h32⟩
  · exact Sq_mk (con_V_put0 i4 hx) (con_R_put0 i4 hx) h
  · exact Sq_mk (con_V_put1 h1 h8 h32) (con_R_put1 h1 h8 h32) ⟨i1, i2, fun q => pt_lt i3 q, h32, i5, i6, i7, i8, i9, i10⟩
theorem sq_length (h : (LJ K Mo dr dl ou ol da eq al us by_ ln pl ou2 sp rw)) (x : Int32) : Sq l i_V_length i_R_length [.int x] K Mo L xs (LM K Mo L xs dr dl ou ol da eq al us by_ ln pl co ou2 rd sp rw f) := by
  obtain ⟨i1, i2, i3, i4, i5, i6, i7, i8, i9, i10⟩ := id h
  rcases obj ln x with hx | ⟨o, ho, rfl, hlo⟩
  · exact Sq_mk (con_V_length0 hx) (con_R_length0 hx) h
  · exact Sq_mk (con_V_length1 ho hlo (i5 o)) (con_R_length1 ho hlo (i5 o)) h
theorem sq_room (h : (LJ K Mo dr dl ou ol da eq al us by_ ln pl ou2 sp rw)) (x : Int32) : Sq l i_V_room i_R_room [.int x] K Mo L xs (LM K Mo L xs dr dl ou ol da eq al us by_ ln pl co ou2 rd sp rw f) := by
  obtain ⟨i1, i2, i3, i4, i5, i6, i7, i8, i9, i10⟩ := id h
  have no : (x < 0 ∨ nI 8 ≤ x ∨ ∃ d, d < 8 ∧ x = nI d ∧ al d = 0) → Sq l i_V_room i_R_room [.int x] K Mo L xs (LM K Mo L xs dr dl ou ol da eq al us by_ ln pl co ou2 rd sp rw f) := fun hx => Sq_mk (con_V_room0 hx) (con_R_room0 hx) h
  rcases rng (m := 8) (by decide) x with hx | hx | ⟨d, hd, rfl⟩
  · exact no (Or.inl hx)
  · exact no (Or.inr (Or.inl hx))
  · rcases (show al d = 0 ∨ al d = 1 by have := i2 d; omega) with ha | ha
    · exact no (Or.inr (Or.inr ⟨d, hd, rfl, ha⟩))
    · exact Sq_mk (con_V_room1 hd ha) (con_R_room1 hd ha i1.1.1 i2) h
theorem sr_scrap (h : (LJ K Mo dr dl ou ol da eq al us by_ ln pl ou2 sp rw)) : Sr l i_V_scrap i_R_scrap [] K Mo L xs (LM K Mo L xs dr dl ou ol da eq al us by_ ln pl co ou2 rd sp rw f) := by
  obtain ⟨i1, i2, i3, i4, i5, i6, i7, i8, i9, i10⟩ := id h
  exact ⟨_, (LM K Mo L xs dr 0 ou ol da eq al us by_ ln pl 0 ou2 rd sp rw f), _, con_V_scrap, rfl, rfl, con_R_scrap (P := PF (CA K Mo dr 0 ou ol da eq al us by_ ln pl [])), ⟨dr, 0, ou, ol, da, eq, al, us, by_, ln, pl, 0, ou2, rd, sp, rw, f, rfl, i1, i2, i3, Nat.zero_le _, i5, i6, i7, i8, i9, i10⟩⟩
end PAIRS3
