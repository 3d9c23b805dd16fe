/-! Each call of the class beside the reference's -/
def LJ (K Mo : Nat) (dr : Nat → Nat) (dl : Nat) (ou : Nat → Nat) (ol : Nat) (da eq al us by_ ln pl ou2 sp rw : Nat → Nat) : Prop := IV K Mo ln (us, by_, pl) ∧ (∀ i, al i < 2) ∧ (∀ i, dr i < 256) ∧ dl ≤ 32 ∧ (∀ o, ln o ≤ 32) ∧ ol ≤ 32 ∧ (∀ i, i < ol → ou i = ou2 i) ∧ (∀ i, da i < 256) ∧ (∀ i, eq i < 256) ∧ b256 (rw, sp)
theorem rng {m : Nat} (hm : m < 2 ^ 30) (x : Int32) : x < 0 ∨ nI m ≤ x ∨ ∃ o, o < m ∧ x = nI o := by
  by_cases h0 : x < 0
  · exact Or.inl h0
  · by_cases h1 : nI m ≤ x
    · exact Or.inr (Or.inl h1)
    · refine Or.inr (Or.inr ⟨x.toNatClampNeg, ?_, ?_⟩)
      · rw [Int32.le_iff_toInt_le, nI_toInt (by omega)] at h1
        rw [Int32.lt_iff_toInt_lt] at h0
        have e0 : (0 : Int32).toInt = 0 := by decide
        rw [e0] at h0
        show x.toInt.toNat < m
        omega
      · apply Int32.toInt_inj.mp
        rw [Int32.lt_iff_toInt_lt] at h0
        have e0 : (0 : Int32).toInt = 0 := by decide
        rw [e0] at h0
        rw [Int32.le_iff_toInt_le, nI_toInt (by omega)] at h1
        have e1 : x.toNatClampNeg = x.toInt.toNat := rfl
        rw [e1, nI_toInt (by omega)]
        omega
theorem obj (ln : Nat → Nat) (x : Int32) : noO ln x ∨ ∃ o, o < 6 ∧ x = nI o ∧ 0 < ln o := by
  rcases rng (m := 6) (by decide) x with h | h | ⟨o, ho, hx⟩
  · exact Or.inl (Or.inl h)
  · exact Or.inl (Or.inr (Or.inl h))
  · by_cases h0 : ln o = 0
    · exact Or.inl (Or.inr (Or.inr ⟨o, ho, hx, h0⟩))
    · exact Or.inr ⟨o, ho, hx, by omega⟩
section PAIRS
variable {l : Launch} {K Mo L dl ol co : Nat} {xs : Nat → Int32} {dr ou da eq al us by_ ln pl ou2 rd sp rw : Nat → Nat} {f : Nat → Int64}
theorem Sp_mk {I I' : MI} {as : List Value} {M0 : List va_E} {r dl' ol' : Nat} {a : Int32} {dr' ou' da' eq' al' us' by' ln' pl' ou2' rd' sp' rw' : Nat → Nat}
    (c1 : Con l I (.ref 0 :: (as ++ [.ref 27])) M0 (.inl (some (.int (nI r)), CA K Mo dr' dl' ou' ol' da' eq' al' us' by' ln' pl' (LT K Mo co dr dl al us by_ ln pl ol ou2 rd sp rw ([lc f])))))
    (c2 : Con l I' (.ref 15 :: as) (RM (PF (CA K Mo dr' dl' ou' ol' da' eq' al' us' by' ln' pl' [])) K Mo co dr dl al us by_ ln pl ol ou2 rd sp rw [lc f]) (.inl (some (.int a), RM (PF (CA K Mo dr' dl' ou' ol' da' eq' al' us' by' ln' pl' [])) K Mo r dr' dl' al' us' by' ln' pl' ol' ou2' rd' sp' rw' [lc f])))
    (hr : nI r = 0 → f 0 = a.toInt64) (hJ : LJ K Mo dr' dl' ou' ol' da' eq' al' us' by' ln' pl' ou2' sp' rw') : Sp l I I' as K Mo L xs M0 :=
  ⟨_, CA K Mo dr' dl' ou' ol' da' eq' al' us' by' ln' pl' (LT K Mo r dr' dl' al' us' by' ln' pl' ol' ou2' rd' sp' rw' [lc f]), nI r, a, f, _, _, c1, rfl, rfl, c2, rfl, con_R_thrown (P := PF (CA K Mo dr' dl' ou' ol' da' eq' al' us' by' ln' pl' [])), rfl, hr, ⟨dr', dl', ou', ol', da', eq', al', us', by', ln', pl', r, ou2', rd', sp', rw', f, rfl, hJ⟩⟩
theorem Sq_mk {I I' : MI} {as : List Value} {M0 : List va_E} {dl' ol' co' : Nat} {z : Int32} {dr' ou' da' eq' al' us' by' ln' pl' ou2' rd' sp' rw' : Nat → Nat}
    (c1 : Con l I (.ref 0 :: as) M0 (.inl (some (.int z), CA K Mo dr' dl' ou' ol' da' eq' al' us' by' ln' pl' (LT K Mo co dr dl al us by_ ln pl ol ou2 rd sp rw ([lc f])))))
    (c2 : Con l I' (.ref 15 :: as) (RM (PF (CA K Mo dr' dl' ou' ol' da' eq' al' us' by' ln' pl' [])) K Mo co dr dl al us by_ ln pl ol ou2 rd sp rw [lc f]) (.inl (some (.int z), RM (PF (CA K Mo dr' dl' ou' ol' da' eq' al' us' by' ln' pl' [])) K Mo co' dr' dl' al' us' by' ln' pl' ol' ou2' rd' sp' rw' [lc f])))
    (hJ : LJ K Mo dr' dl' ou' ol' da' eq' al' us' by' ln' pl' ou2' sp' rw') : Sq l I I' as K Mo L xs M0 :=
  ⟨_, CA K Mo dr' dl' ou' ol' da' eq' al' us' by' ln' pl' (LT K Mo co' dr' dl' al' us' by' ln' pl' ol' ou2' rd' sp' rw' [lc f]), z, _, c1, rfl, rfl, c2, ⟨dr', dl', ou', ol', da', eq', al', us', by', ln', pl', co', ou2', rd', sp', rw', f, rfl, hJ⟩⟩
theorem vpL (f : Nat → Int64) (a : Int64) : vp_updL f 0 a 0 = a := rfl
theorem n1z {r : Nat} (h : r = 1 ∨ r = 2) {p : Prop} (z : nI r = 0) : p := by rcases h with rfl | rfl <;> exact absurd z (by decide)
theorem sp_drop (hl : l.stackTraces = false) (hK : 0 < K) (hK4 : K ≤ 4) (hM : Mo ≤ 3) (h : (LJ K Mo dr dl ou ol da eq al us by_ ln pl ou2 sp rw)) (x : Int32) : Sp l i_L_drop i_R_drop [.int x] K Mo L xs (LM K Mo L xs dr dl ou ol da eq al us by_ ln pl co ou2 rd sp rw f) := by
  rcases obj ln x with hx | ⟨o, ho, rfl, hlo⟩
  · exact Sp_mk (h1_L_drop (con_V_drop0 hl hx) rfl rfl) (con_R_drop0 hx) (n1z (Or.inl rfl)) h
  · obtain ⟨i1, i2, i3, i4, i5, i6, i7, i8, i9, i10⟩ := h
    have e := cl_eq (x := (0, us, pl)) i1.2.2.2 (by omega) ho (ns_le hK (i5 o))
    have c1 := con_V_drop1 (l := l) (dr := dr) (dl := dl) (ou := ou) (ol := ol) (da := da) (eq := eq) (al := al) (by_ := by_) (X := (LT K Mo co dr dl al us by_ ln pl ol ou2 rd sp rw ([lc f]))) (IV_okR i1 0) hK hK4 hM ho hlo (i5 o)
    rw [← e] at c1
    have hI := IV_clear i1 ho 0
    have c2 := fun P f => con_R_drop1 (l := l) (P := P) (K := K) (Mo := Mo) (co := co) (dr := dr) (sz := dl) (al := al) (by_ := by_) (os := ol) (ou := ou2) (rd := rd) (sp := sp) (rw := rw) (Y := [lc f]) i1.1.1 i1.1.2.2 ho hlo (i5 o)
    generalize clS o (0, us, pl) 56 = y at c1 c2 hI
    refine Sp_mk (f := vp_updL f 0 (nI y.1).toInt64) (hz_L_drop (f := f) c1 rfl rfl rfl) (c2 _ _) (fun _ => rfl) ⟨hI, i2, i3, i4, fun q => ?_, i6, i7, i8, i9, i10⟩
    unfold up; split
    · omega
    · exact i5 q
theorem up_le {f : Nat → Nat} {i v m : Nat} (hf : ∀ i, f i ≤ m) (hv : v ≤ m) (j : Nat) : up f i v j ≤ m := by unfold up; split; exact hv; exact hf j
theorem sp_at (hl : l.stackTraces = false) (h : (LJ K Mo dr dl ou ol da eq al us by_ ln pl ou2 sp rw)) (x : Int32) : Sp l i_L_at i_R_at [.int x] K Mo L xs (LM K Mo L xs dr dl ou ol da eq al us by_ ln pl co ou2 rd sp rw f) := by
  obtain ⟨i1, i2, i3, i4, i5, i6, i7, i8, i9, i10⟩ := id h
  have no : (x < 0 ∨ nI ol ≤ x) → Sp l i_L_at i_R_at [.int x] K Mo L xs (LM K Mo L xs dr dl ou ol da eq al us by_ ln pl co ou2 rd sp rw f) := fun hx => Sp_mk (h1_L_at (con_V_at0 hl hx) rfl rfl) (con_R_at0 hx) (n1z (Or.inl rfl)) h
  rcases rng (m := ol) (by omega) x with hx | hx | ⟨i, hi, rfl⟩
  · exact no (Or.inl hx)
  · exact no (Or.inr hx)
  · have c2 := fun P f => con_R_at1 (l := l) (P := P) (K := K) (Mo := Mo) (co := co) (dr := dr) (sz := dl) (al := al) (us := us) (by_ := by_) (ln := ln) (pl := pl) (os := ol) (ou := ou2) (rd := rd) (sp := sp) (rw := rw) (Y := [lc f]) hi i6
    rw [← i7 i hi] at c2
    exact Sp_mk (f := vp_updL f 0 (nI (ou i)).toInt64) (hz_L_at (f := f) (con_V_at1 hi i6) rfl rfl rfl) (c2 _ _) (fun _ => rfl) h
theorem sp_fail (hl : l.stackTraces = false) (hK : 0 < K) (hK4 : K ≤ 4) (hM : Mo ≤ 3) (h : (LJ K Mo dr dl ou ol da eq al us by_ ln pl ou2 sp rw)) (x : Int32) : Sp l i_L_fail i_R_fail [.int x] K Mo L xs (LM K Mo L xs dr dl ou ol da eq al us by_ ln pl co ou2 rd sp rw f) := by
  obtain ⟨i1, i2, i3, i4, i5, i6, i7, i8, i9, i10⟩ := id h
  have no : (x < 0 ∨ nI 8 ≤ x) → Sp l i_L_fail i_R_fail [.int x] K Mo L xs (LM K Mo L xs dr dl ou ol da eq al us by_ ln pl co ou2 rd sp rw f) := fun hx => Sp_mk (h1_L_fail (con_V_fail0 hl hx) rfl rfl) (con_R_fail0 hx) (n1z (Or.inl rfl)) h
  rcases rng (m := 8) (by decide) x with hx | hx | ⟨d, hd, rfl⟩
  · exact no (Or.inl hx)
  · exact no (Or.inr hx)
  · rcases (show al d = 0 ∨ al d = 1 by have := i2 d; omega) with ha | ha
    · exact Sp_mk (h2_L_fail (con_V_fail2 hl hd ha) rfl rfl) (con_R_fail2 hd ha) (n1z (Or.inr rfl)) h
    · have c1 := con_V_fail1 (l := l) (K := K) (Mo := Mo) (dr := dr) (dl := dl) (ou := ou) (ol := ol) (da := da) (eq := eq) (by_ := by_) (ln := ln) (X := (LT K Mo co dr dl al us by_ ln pl ol ou2 rd sp rw ([lc f]))) hd ha i1.1.1 i1.1.2.2
      rw [← fr_fail us hd, ← tk_fail us d, ← pl_fail (K + Mo) pl d (by omega) (by omega)] at c1
      have c2 := fun P f => con_R_fail1 (l := l) (P := P) (K := K) (Mo := Mo) (co := co) (dr := dr) (sz := dl) (us := us) (by_ := by_) (os := ol) (ou := ou2) (rd := rd) (sp := sp) (rw := rw) (Y := [lc f]) hd ha i1.1.2.2 (fun i hi h0 => by
        have := ZS_obj i1.2.2.2 hK (o := i / 56) (by omega) h0 (i := i % 56) (Nat.mod_lt _ (by decide))
        rw [Nat.div_add_mod] at this
        exact this) i5
      rw [fail_count i1.2.1 d] at c2
      have hI := IV_fail i1 d
      generalize fz10 us d 10 = us1 at c1 c2 hI
      generalize lz10 pl d 336 = pl1 at c1 c2 hI
      exact Sp_mk (f := vp_updL f 0 (nI (ud us d)).toInt64) (hz_L_fail (f := f) c1 rfl rfl rfl) (c2 _ _) (fun _ => rfl) ⟨hI, fun i => up_lt i2 (by decide) i, i3, i4, i5, i6, i7, i8, i9, i10⟩
theorem sp_renew (hl : l.stackTraces = false) (h : (LJ K Mo dr dl ou ol da eq al us by_ ln pl ou2 sp rw)) (x : Int32) : Sp l i_L_renew i_R_renew [.int x] K Mo L xs (LM K Mo L xs dr dl ou ol da eq al us by_ ln pl co ou2 rd sp rw f) := by
  obtain ⟨i1, i2, i3, i4, i5, i6, i7, i8, i9, i10⟩ := id h
  have no : (x < 0 ∨ nI 8 ≤ x) → Sp l i_L_renew i_R_renew [.int x] K Mo L xs (LM K Mo L xs dr dl ou ol da eq al us by_ ln pl co ou2 rd sp rw f) := fun hx => Sp_mk (h1_L_renew (con_V_renew0 hl hx) rfl rfl) (con_R_renew0 hx) (n1z (Or.inl rfl)) h
  rcases rng (m := 8) (by decide) x with hx | hx | ⟨d, hd, rfl⟩
  · exact no (Or.inl hx)
  · exact no (Or.inr hx)
  · rcases (show al d = 0 ∨ al d = 1 by have := i2 d; omega) with ha | ha
    · have c1 := con_V_renew1 (l := l) (K := K) (Mo := Mo) (dr := dr) (dl := dl) (ou := ou) (ol := ol) (da := da) (eq := eq) (us := us) (by_ := by_) (ln := ln) (pl := pl) (X := (LT K Mo co dr dl al us by_ ln pl ol ou2 rd sp rw ([lc f]))) hd ha i2
      have c2 := fun P f => con_R_renew1 (l := l) (P := P) (K := K) (Mo := Mo) (co := co) (dr := dr) (sz := dl) (us := us) (by_ := by_) (ln := ln) (pl := pl) (os := ol) (ou := ou2) (rd := rd) (sp := sp) (rw := rw) (Y := [lc f]) hd ha i2
      generalize cs (up al d 1) 8 = v at c1 c2
      exact Sp_mk (f := vp_updL f 0 (nI v).toInt64) (hz_L_renew (f := f) c1 rfl rfl rfl) (c2 _ _) (fun _ => rfl) ⟨i1, fun i => up_lt i2 (by decide) i, i3, i4, i5, i6, i7, i8, i9, i10⟩
    · exact Sp_mk (h2_L_renew (con_V_renew2 hl hd ha) rfl rfl) (con_R_renew2 hd ha) (n1z (Or.inr rfl)) h
theorem sp_check (hl : l.stackTraces = false) (hK : 0 < K) (hK4 : K ≤ 4) (hM0 : 0 < Mo) (hM : Mo ≤ 3) (h : (LJ K Mo dr dl ou ol da eq al us by_ ln pl ou2 sp rw)) (x : Int32) : Sp l i_L_check i_R_check [.int x] K Mo L xs (LM K Mo L xs dr dl ou ol da eq al us by_ ln pl co ou2 rd sp rw f) := by
  obtain ⟨i1, i2, i3, i4, i5, i6, i7, i8, i9, i10⟩ := id h
  rcases obj ln x with hx | ⟨o, ho, rfl, hlo⟩
  · exact Sp_mk (h1_L_check (con_V_check0 hl hx) rfl rfl) (con_R_check0 hx) (n1z (Or.inl rfl)) h
  · have c1 := con_V_check1 (l := l) (dr := dr) (dl := dl) (ou := ou) (ol := ol) (al := al) (us := us) (X := (LT K Mo co dr dl al us by_ ln pl ol ou2 rd sp rw ([lc f]))) i9 i8 hK hK4 hM0 hM ho i1.1.2.2 i1.1.2.1 hlo (i5 o)
    have e := ckS_eq (x := ((eq, da), 0)) (pl := pl) (by_ := by_) (o := o) ⟨i9, i8⟩ i1.1.2.1 hK hK4 hM0 hM (ns K (ln o))
    have hb := ckS_b (K := K) (Mo := Mo) (x := ((eq, da), 0)) (pl := pl) (by_ := by_) (o := o) ⟨i9, i8⟩ i1.1.2.1 (ns K (ln o))
    generalize ckS K Mo pl by_ o ((eq, da), 0) (ns K (ln o)) = y at c1 e hb
    obtain ⟨z', hz', c2⟩ := con_R_check1 (l := l) (P := PF (CA K Mo dr dl ou ol (y.1.2) (y.1.1) al us by_ ln pl [])) (co := co) (dr := dr) (sz := dl) (al := al) (us := us) (os := ol) (ou := ou2) (rd := rd) (Y := [lc (vp_updL f 0 (nI y.2).toInt64)]) i10 hK hK4 hM0 hM ho i1.1.2.2 i1.1.2.1 hlo (i5 o)
    rw [Nat.zero_add] at e
    rw [← e] at c2
    exact Sp_mk (f := vp_updL f 0 (nI y.2).toInt64) (hz_L_check (f := f) c1 rfl rfl rfl) c2 (fun _ => rfl) ⟨i1, i2, i3, i4, i5, i6, i7, hb.2, hb.1, hz'⟩
end PAIRS
