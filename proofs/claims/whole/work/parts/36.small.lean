/-! The class's answers, one case a row; what it throws -/
section SMALL
variable {l : Launch} {K Mo dl ol : Nat} {dr ou da eq al us by_ ln pl : Nat → Nat} {X : List va_E}
theorem con_V_isObj1 {o : Nat} (ho : o < 6) (M : List va_E) : Con l i_V_isObjectNumber [.int (nI o)] M (.inl (some (.int (nI 1)), M)) := by
  refine Con.of ?_
  refine J.iload_n d_V_isObjectNumber_0 rfl rfl ?_
  refine J.if_ltN d_V_isObjectNumber_1 (tgt := 14) (by decide) (by omega) (fun _ => ?_)
  refine J.iload_n d_V_isObjectNumber_4 rfl rfl ?_
  refine J.bipush d_V_isObjectNumber_5 (v := nI 6) (by decide) ?_
  refine J.icmp_geN d_V_isObjectNumber_7 (tgt := 14) (by decide) (by omega) (by omega) (fun h => ?_) (fun h => ?_)
  · omega
  · refine J.iconst d_V_isObjectNumber_10 (v := nI 1) (by decide) ?_
    refine J.goto d_V_isObjectNumber_11 (tgt := 15) (by decide) ?_
    first | exact J.zreturn d_V_isObjectNumber_15 rfl rfl (by decide) (by decide) | exact J.zreturnN d_V_isObjectNumber_15 rfl (by omega) (by decide) (by decide)
theorem con_V_isObj0 {x : Int32} (hx : x < 0 ∨ nI 6 ≤ x) (M : List va_E) : Con l i_V_isObjectNumber [.int x] M (.inl (some (.int (nI 0)), M)) := by
  refine Con.of ?_
  refine J.iload_n d_V_isObjectNumber_0 rfl rfl ?_
  refine J.if_lt d_V_isObjectNumber_1 (tgt := 14) (by decide) (fun h => ?_) (fun h => ?_)
  · refine J.iconst d_V_isObjectNumber_14 (v := nI 0) (by decide) ?_
    first | exact J.zreturn d_V_isObjectNumber_15 rfl rfl (by decide) (by decide) | exact J.zreturnN d_V_isObjectNumber_15 rfl (by omega) (by decide) (by decide)
  refine J.iload_n d_V_isObjectNumber_4 rfl rfl ?_
  refine J.bipush d_V_isObjectNumber_5 (v := nI 6) (by decide) ?_
  refine J.icmp_ge d_V_isObjectNumber_7 (tgt := 14) (by decide) (fun h2 => ?_) (fun h2 => absurd (hx.resolve_left h) h2)
  refine J.iconst d_V_isObjectNumber_14 (v := nI 0) (by decide) ?_
  first | exact J.zreturn d_V_isObjectNumber_15 rfl rfl (by decide) (by decide) | exact J.zreturnN d_V_isObjectNumber_15 rfl (by omega) (by decide) (by decide)
theorem con_V_isDisk1 {o : Nat} (ho : o < 8) (M : List va_E) : Con l i_V_isDiskNumber [.int (nI o)] M (.inl (some (.int (nI 1)), M)) := by
  refine Con.of ?_
  refine J.iload_n d_V_isDiskNumber_0 rfl rfl ?_
  refine J.if_ltN d_V_isDiskNumber_1 (tgt := 14) (by decide) (by omega) (fun _ => ?_)
  refine J.iload_n d_V_isDiskNumber_4 rfl rfl ?_
  refine J.bipush d_V_isDiskNumber_5 (v := nI 8) (by decide) ?_
  refine J.icmp_geN d_V_isDiskNumber_7 (tgt := 14) (by decide) (by omega) (by omega) (fun h => ?_) (fun h => ?_)
  · omega
  · refine J.iconst d_V_isDiskNumber_10 (v := nI 1) (by decide) ?_
    refine J.goto d_V_isDiskNumber_11 (tgt := 15) (by decide) ?_
    first | exact J.zreturn d_V_isDiskNumber_15 rfl rfl (by decide) (by decide) | exact J.zreturnN d_V_isDiskNumber_15 rfl (by omega) (by decide) (by decide)
theorem con_V_isDisk0 {x : Int32} (hx : x < 0 ∨ nI 8 ≤ x) (M : List va_E) : Con l i_V_isDiskNumber [.int x] M (.inl (some (.int (nI 0)), M)) := by
  refine Con.of ?_
  refine J.iload_n d_V_isDiskNumber_0 rfl rfl ?_
  refine J.if_lt d_V_isDiskNumber_1 (tgt := 14) (by decide) (fun h => ?_) (fun h => ?_)
  · refine J.iconst d_V_isDiskNumber_14 (v := nI 0) (by decide) ?_
    first | exact J.zreturn d_V_isDiskNumber_15 rfl rfl (by decide) (by decide) | exact J.zreturnN d_V_isDiskNumber_15 rfl (by omega) (by decide) (by decide)
  refine J.iload_n d_V_isDiskNumber_4 rfl rfl ?_
  refine J.bipush d_V_isDiskNumber_5 (v := nI 8) (by decide) ?_
  refine J.icmp_ge d_V_isDiskNumber_7 (tgt := 14) (by decide) (fun h2 => ?_) (fun h2 => absurd (hx.resolve_left h) h2)
  refine J.iconst d_V_isDiskNumber_14 (v := nI 0) (by decide) ?_
  first | exact J.zreturn d_V_isDiskNumber_15 rfl rfl (by decide) (by decide) | exact J.zreturnN d_V_isDiskNumber_15 rfl (by omega) (by decide) (by decide)
theorem con_V_isByte1 {o : Nat} (ho : o < 256) (M : List va_E) : Con l i_V_isByte [.int (nI o)] M (.inl (some (.int (nI 1)), M)) := by
  refine Con.of ?_
  refine J.iload_n d_V_isByte_0 rfl rfl ?_
  refine J.if_ltN d_V_isByte_1 (tgt := 15) (by decide) (by omega) (fun _ => ?_)
  refine J.iload_n d_V_isByte_4 rfl rfl ?_
  refine J.sipush d_V_isByte_5 (v := nI 255) (by decide) ?_
  refine J.icmp_gtN d_V_isByte_8 (tgt := 15) (by decide) (by omega) (by omega) (fun h => ?_) (fun h => ?_)
  · omega
  · refine J.iconst d_V_isByte_11 (v := nI 1) (by decide) ?_
    refine J.goto d_V_isByte_12 (tgt := 16) (by decide) ?_
    first | exact J.zreturn d_V_isByte_16 rfl rfl (by decide) (by decide) | exact J.zreturnN d_V_isByte_16 rfl (by omega) (by decide) (by decide)
theorem le_of_lt255 {x : Int32} (h : nI 256 ≤ x) : nI 255 < x := by
  rw [Int32.le_iff_toInt_le] at h
  rw [Int32.lt_iff_toInt_lt]
  have e1 : (nI 256).toInt = 256 := by decide +kernel
  have e2 : (nI 255).toInt = 255 := by decide +kernel
  omega
theorem con_V_isByte0 {x : Int32} (hx : x < 0 ∨ nI 256 ≤ x) (M : List va_E) : Con l i_V_isByte [.int x] M (.inl (some (.int (nI 0)), M)) := by
  refine Con.of ?_
  refine J.iload_n d_V_isByte_0 rfl rfl ?_
  refine J.if_lt d_V_isByte_1 (tgt := 15) (by decide) (fun h => ?_) (fun h => ?_)
  · refine J.iconst d_V_isByte_15 (v := nI 0) (by decide) ?_
    first | exact J.zreturn d_V_isByte_16 rfl rfl (by decide) (by decide) | exact J.zreturnN d_V_isByte_16 rfl (by omega) (by decide) (by decide)
  refine J.iload_n d_V_isByte_4 rfl rfl ?_
  refine J.sipush d_V_isByte_5 (v := nI 255) (by decide) ?_
  refine J.icmp_gt d_V_isByte_8 (tgt := 15) (by decide) (fun h2 => ?_) (fun h2 => absurd (le_of_lt255 (hx.resolve_left h)) h2)
  refine J.iconst d_V_isByte_15 (v := nI 0) (by decide) ?_
  first | exact J.zreturn d_V_isByte_16 rfl rfl (by decide) (by decide) | exact J.zreturnN d_V_isByte_16 rfl (by omega) (by decide) (by decide)
theorem hold1 {o : Nat} (h : 0 < ln o) : (if 0 < ln o then 1 else 0) = 1 := if_pos h
theorem con_V_reqO1 {o : Nat} (ho : o < 6) (hl : 0 < ln o) (hl2 : ln o ≤ 32) : Con l i_V_requireObject [.ref 0, .int (nI o)] (CA K Mo dr dl ou ol da eq al us by_ ln pl X) (.inl (none, (CA K Mo dr dl ou ol da eq al us by_ ln pl X))) := by
  have hh := con_G_holds (l := l) (K := K) (Mo := Mo) (dl := dl) (ol := ol) (dr := dr) (ou := ou) (da := da) (eq := eq) (al := al) (fr := frOf us) (tk := tkOf us) (by_ := byOf by_) (ln := ln) (pl := plOf (K + Mo) pl) (X := X) ho (by omega)
  rw [if_pos hl] at hh
  refine Con.of ?_
  refine J.iload_n d_V_requireObject_0 rfl rfl ?_
  refine J.s1i (con_V_isObj1 ho _) k_V_requireObject_V_isObjectNumber d_V_requireObject_1 rfl ?_
  refine J.if_eqN d_V_requireObject_4 (tgt := 18) (by decide) (by omega) (fun h => ?_) (fun h => ?_)
  · exact absurd h (by decide)
  refine J.aload_n d_V_requireObject_7 rfl rfl ?_
  refine J.getfield d_V_requireObject_8 fl_V_32 rfl rfl ?_
  refine J.iload_n d_V_requireObject_11 rfl rfl ?_
  refine J.v1i hh k_V_requireObject_G_holds d_V_requireObject_12 rfl rfl rfl ?_
  refine J.if_neN d_V_requireObject_15 (tgt := 26) (by decide) (by omega) (fun h => ?_) (fun h => ?_)
  · exact J.vreturn d_V_requireObject_26 rfl (by decide) (by decide)
  · exact absurd h (by decide)
/-- an object's number that names none -/
def noO (ln : Nat → Nat) (x : Int32) : Prop := x < 0 ∨ nI 6 ≤ x ∨ ∃ o, o < 6 ∧ x = nI o ∧ ln o = 0
theorem con_V_reqO0 (hl : l.stackTraces = false) {x : Int32} (hx : noO ln x) : Con l i_V_requireObject [.ref 0, .int x] (CA K Mo dr dl ou ol da eq al us by_ ln pl X) (.inr ("java/util/NoSuchElementException", (CA K Mo dr dl ou ol da eq al us by_ ln pl X))) := by
  have thr : ∀ {lv}, J l i_V_requireObject 18 lv [] (CA K Mo dr dl ou ol da eq al us by_ ln pl X) 0 0 (.inr ("java/util/NoSuchElementException", (CA K Mo dr dl ou ol da eq al us by_ ln pl X))) := J.throwNew hl tw_NSE d_V_requireObject_18 d_V_requireObject_21 d_V_requireObject_22 d_V_requireObject_25 rfl (by decide) (by decide) ⟨by decide, by decide⟩ ⟨by decide, by decide⟩
  have out : (x < 0 ∨ nI 6 ≤ x) → Con l i_V_requireObject [.ref 0, .int x] (CA K Mo dr dl ou ol da eq al us by_ ln pl X) (.inr ("java/util/NoSuchElementException", (CA K Mo dr dl ou ol da eq al us by_ ln pl X))) := by
    intro hx
    refine Con.of ?_
    refine J.iload_n d_V_requireObject_0 rfl rfl ?_
    refine J.s1i (con_V_isObj0 hx _) k_V_requireObject_V_isObjectNumber d_V_requireObject_1 rfl ?_
    refine J.if_eqN d_V_requireObject_4 (tgt := 18) (by decide) (by omega) (fun h => ?_) (fun h => ?_)
    · exact thr
    · exact absurd rfl h
  rcases hx with hx | hx | ⟨o, ho, rfl, h0⟩
  · exact out (Or.inl hx)
  · exact out (Or.inr hx)
  · have hh := con_G_holds (l := l) (K := K) (Mo := Mo) (dl := dl) (ol := ol) (dr := dr) (ou := ou) (da := da) (eq := eq) (al := al) (fr := frOf us) (tk := tkOf us) (by_ := byOf by_) (ln := ln) (pl := plOf (K + Mo) pl) (X := X) ho (by omega)
    rw [if_neg (by omega)] at hh
    refine Con.of ?_
    refine J.iload_n d_V_requireObject_0 rfl rfl ?_
    refine J.s1i (con_V_isObj1 ho _) k_V_requireObject_V_isObjectNumber d_V_requireObject_1 rfl ?_
    refine J.if_eqN d_V_requireObject_4 (tgt := 18) (by decide) (by omega) (fun h => ?_) (fun h => ?_)
    · exact absurd h (by decide)
    refine J.aload_n d_V_requireObject_7 rfl rfl ?_
    refine J.getfield d_V_requireObject_8 fl_V_32 rfl rfl ?_
    refine J.iload_n d_V_requireObject_11 rfl rfl ?_
    refine J.v1i hh k_V_requireObject_G_holds d_V_requireObject_12 rfl rfl rfl ?_
    refine J.if_neN d_V_requireObject_15 (tgt := 26) (by decide) (by omega) (fun h => ?_) (fun h => ?_)
    · exact absurd rfl h
    · exact thr
theorem con_V_reqD1 {d : Nat} (hd : d < 8) : Con l i_V_requireDisk [.ref 0, .int (nI d)] (CA K Mo dr dl ou ol da eq al us by_ ln pl X) (.inl (none, (CA K Mo dr dl ou ol da eq al us by_ ln pl X))) := by
  refine Con.of ?_
  refine J.iload_n d_V_requireDisk_0 rfl rfl ?_
  refine J.s1i (con_V_isDisk1 hd _) k_V_requireDisk_V_isDiskNumber d_V_requireDisk_1 rfl ?_
  refine J.if_neN d_V_requireDisk_4 (tgt := 15) (by decide) (by omega) (fun h => ?_) (fun h => ?_)
  · exact J.vreturn d_V_requireDisk_15 rfl (by decide) (by decide)
  · exact absurd h (by decide)
theorem con_V_reqD0 (hl : l.stackTraces = false) {x : Int32} (hx : x < 0 ∨ nI 8 ≤ x) : Con l i_V_requireDisk [.ref 0, .int x] (CA K Mo dr dl ou ol da eq al us by_ ln pl X) (.inr ("java/lang/IllegalArgumentException", (CA K Mo dr dl ou ol da eq al us by_ ln pl X))) := by
  refine Con.of ?_
  refine J.iload_n d_V_requireDisk_0 rfl rfl ?_
  refine J.s1i (con_V_isDisk0 hx _) k_V_requireDisk_V_isDiskNumber d_V_requireDisk_1 rfl ?_
  refine J.if_neN d_V_requireDisk_4 (tgt := 15) (by decide) (by omega) (fun h => ?_) (fun h => ?_)
  · exact absurd rfl h
  · exact J.throwNew hl tw_IAE d_V_requireDisk_7 d_V_requireDisk_10 d_V_requireDisk_11 d_V_requireDisk_14 rfl (by decide) (by decide) ⟨by decide, by decide⟩ ⟨by decide, by decide⟩
theorem tk10 {d s : Nat} (hd : d < 8) (hs : s < 10) (h2 : ∀ i, us i < 2) : Con l i_D_isTaken [.ref 5, .int (nI (16 * d + s))] (CA K Mo dr dl ou ol da eq al us by_ ln pl X) (.inl (some (.int (nI (us (10 * d + s)))), (CA K Mo dr dl ou ol da eq al us by_ ln pl X))) := by
  have := con_D_isTaken (l := l) (K := K) (Mo := Mo) (dl := dl) (ol := ol) (dr := dr) (ou := ou) (da := da) (eq := eq) (al := al) (fr := frOf us) (tk := tkOf us) (by_ := byOf by_) (ln := ln) (pl := plOf (K + Mo) pl) (X := X) (q := 16 * d + s) (by omega) (tk_lt h2 _)
  rw [tk_at us hs] at this
  exact this
theorem con_V_reqB1 {d s i : Nat} (hd : d < 8) (hs : s < 10) (hi : i < 4) (h2 : ∀ i, us i < 2) (hu : us (10 * d + s) = 1) : Con l i_V_requireStoredByte [.ref 0, .int (nI d), .int (nI s), .int (nI i)] (CA K Mo dr dl ou ol da eq al us by_ ln pl X) (.inl (none, (CA K Mo dr dl ou ol da eq al us by_ ln pl X))) := by
  have ht := tk10 (l := l) (K := K) (Mo := Mo) (dl := dl) (ol := ol) (dr := dr) (ou := ou) (da := da) (eq := eq) (al := al) (us := us) (by_ := by_) (ln := ln) (pl := pl) (X := X) hd hs h2
  rw [hu] at ht
  refine Con.of ?_
  refine J.aload_n d_V_requireStoredByte_0 rfl rfl ?_
  refine J.iload_n d_V_requireStoredByte_1 rfl rfl ?_
  refine J.v1v (con_V_reqD1 hd) k_V_requireStoredByte_V_requireDisk d_V_requireStoredByte_2 rfl rfl rfl ?_
  refine J.iload_n d_V_requireStoredByte_5 rfl rfl ?_
  refine J.if_ltN d_V_requireStoredByte_6 (tgt := 24) (by decide) (by omega) (fun _ => ?_)
  refine J.iload_n d_V_requireStoredByte_9 rfl rfl ?_
  refine J.bipush d_V_requireStoredByte_10 (v := nI 10) (by decide) ?_
  refine J.icmp_geN d_V_requireStoredByte_12 (tgt := 24) (by decide) (by omega) (by omega) (fun h => ?_) (fun h => ?_)
  · omega
  refine J.iload_n d_V_requireStoredByte_15 rfl rfl ?_
  refine J.if_ltN d_V_requireStoredByte_16 (tgt := 24) (by decide) (by omega) (fun _ => ?_)
  refine J.iload_n d_V_requireStoredByte_19 rfl rfl ?_
  refine J.iconst d_V_requireStoredByte_20 (v := nI 4) (by decide) ?_
  refine J.icmp_ltN d_V_requireStoredByte_21 (tgt := 32) (by decide) (by omega) (by omega) (fun h3 => ?_) (fun h3 => ?_)
  · refine J.aload_n d_V_requireStoredByte_32 rfl rfl ?_
    refine J.getfield d_V_requireStoredByte_33 fl_V_25 rfl rfl ?_
    refine J.iload_n d_V_requireStoredByte_36 rfl rfl ?_
    refine J.iload_n d_V_requireStoredByte_37 rfl rfl ?_
    refine J.s2i (con_V_placeAt d s _) k_V_requireStoredByte_V_placeAt d_V_requireStoredByte_38 rfl ?_
    refine J.v1i ht k_V_requireStoredByte_D_isTaken d_V_requireStoredByte_41 rfl rfl rfl ?_
    refine J.if_neN d_V_requireStoredByte_44 (tgt := 55) (by decide) (by omega) (fun h4 => ?_) (fun h4 => ?_)
    · exact J.vreturn d_V_requireStoredByte_55 rfl (by decide) (by decide)
    · exact absurd h4 (by decide)
  · omega
theorem con_V_reqB2 (hl : l.stackTraces = false) {d s i : Nat} (hd : d < 8) (hs : s < 10) (hi : i < 4) (h2 : ∀ i, us i < 2) (hu : us (10 * d + s) = 0) : Con l i_V_requireStoredByte [.ref 0, .int (nI d), .int (nI s), .int (nI i)] (CA K Mo dr dl ou ol da eq al us by_ ln pl X) (.inr ("java/util/NoSuchElementException", (CA K Mo dr dl ou ol da eq al us by_ ln pl X))) := by
  have ht := tk10 (l := l) (K := K) (Mo := Mo) (dl := dl) (ol := ol) (dr := dr) (ou := ou) (da := da) (eq := eq) (al := al) (us := us) (by_ := by_) (ln := ln) (pl := pl) (X := X) hd hs h2
  rw [hu] at ht
  refine Con.of ?_
  refine J.aload_n d_V_requireStoredByte_0 rfl rfl ?_
  refine J.iload_n d_V_requireStoredByte_1 rfl rfl ?_
  refine J.v1v (con_V_reqD1 hd) k_V_requireStoredByte_V_requireDisk d_V_requireStoredByte_2 rfl rfl rfl ?_
  refine J.iload_n d_V_requireStoredByte_5 rfl rfl ?_
  refine J.if_ltN d_V_requireStoredByte_6 (tgt := 24) (by decide) (by omega) (fun _ => ?_)
  refine J.iload_n d_V_requireStoredByte_9 rfl rfl ?_
  refine J.bipush d_V_requireStoredByte_10 (v := nI 10) (by decide) ?_
  refine J.icmp_geN d_V_requireStoredByte_12 (tgt := 24) (by decide) (by omega) (by omega) (fun h => ?_) (fun h => ?_)
  · omega
  refine J.iload_n d_V_requireStoredByte_15 rfl rfl ?_
  refine J.if_ltN d_V_requireStoredByte_16 (tgt := 24) (by decide) (by omega) (fun _ => ?_)
  refine J.iload_n d_V_requireStoredByte_19 rfl rfl ?_
  refine J.iconst d_V_requireStoredByte_20 (v := nI 4) (by decide) ?_
  refine J.icmp_ltN d_V_requireStoredByte_21 (tgt := 32) (by decide) (by omega) (by omega) (fun h3 => ?_) (fun h3 => ?_)
  · refine J.aload_n d_V_requireStoredByte_32 rfl rfl ?_
    refine J.getfield d_V_requireStoredByte_33 fl_V_25 rfl rfl ?_
    refine J.iload_n d_V_requireStoredByte_36 rfl rfl ?_
    refine J.iload_n d_V_requireStoredByte_37 rfl rfl ?_
    refine J.s2i (con_V_placeAt d s _) k_V_requireStoredByte_V_placeAt d_V_requireStoredByte_38 rfl ?_
    refine J.v1i ht k_V_requireStoredByte_D_isTaken d_V_requireStoredByte_41 rfl rfl rfl ?_
    refine J.if_neN d_V_requireStoredByte_44 (tgt := 55) (by decide) (by omega) (fun h4 => ?_) (fun h4 => ?_)
    · exact absurd rfl h4
    · exact J.throwNew hl tw_NSE d_V_requireStoredByte_47 d_V_requireStoredByte_50 d_V_requireStoredByte_51 d_V_requireStoredByte_54 rfl (by decide) (by decide) ⟨by decide, by decide⟩ ⟨by decide, by decide⟩
  · omega
/-- numbers that name no byte of a slot -/
def noB (d s i : Int32) : Prop := (d < 0 ∨ nI 8 ≤ d) ∨ ((∃ d', d' < 8 ∧ d = nI d') ∧ (s < 0 ∨ nI 10 ≤ s ∨ i < 0 ∨ nI 4 ≤ i))
theorem con_V_reqB0 (hl : l.stackTraces = false) {d s i : Int32} (hx : noB d s i) : Con l i_V_requireStoredByte [.ref 0, .int d, .int s, .int i] (CA K Mo dr dl ou ol da eq al us by_ ln pl X) (.inr ("java/lang/IllegalArgumentException", (CA K Mo dr dl ou ol da eq al us by_ ln pl X))) := by
  rcases hx with hx | ⟨⟨d', hd, rfl⟩, hx⟩
  · refine Con.of ?_
    refine J.aload_n d_V_requireStoredByte_0 rfl rfl ?_
    refine J.iload_n d_V_requireStoredByte_1 rfl rfl ?_
    exact J.t1 (con_V_reqD0 hl hx) k_V_requireStoredByte_V_requireDisk d_V_requireStoredByte_2 rfl rfl
  · have thr : ∀ {lv}, J l i_V_requireStoredByte 24 lv [] (CA K Mo dr dl ou ol da eq al us by_ ln pl X) (0 + i_V_requireDisk.mc) (0 + i_V_requireDisk.ms) (.inr ("java/lang/IllegalArgumentException", (CA K Mo dr dl ou ol da eq al us by_ ln pl X))) := J.throwNew hl tw_IAE d_V_requireStoredByte_24 d_V_requireStoredByte_27 d_V_requireStoredByte_28 d_V_requireStoredByte_31 rfl (by decide) (by decide) ⟨by decide, by decide⟩ ⟨by decide, by decide⟩
    refine Con.of ?_
    refine J.aload_n d_V_requireStoredByte_0 rfl rfl ?_
    refine J.iload_n d_V_requireStoredByte_1 rfl rfl ?_
    refine J.v1v (con_V_reqD1 hd) k_V_requireStoredByte_V_requireDisk d_V_requireStoredByte_2 rfl rfl rfl ?_
    refine J.iload_n d_V_requireStoredByte_5 rfl rfl ?_
    refine J.if_lt d_V_requireStoredByte_6 (tgt := 24) (by decide) (fun _ => thr) (fun h1 => ?_)
    refine J.iload_n d_V_requireStoredByte_9 rfl rfl ?_
    refine J.bipush d_V_requireStoredByte_10 (v := nI 10) (by decide) ?_
    refine J.icmp_ge d_V_requireStoredByte_12 (tgt := 24) (by decide) (fun _ => thr) (fun h2 => ?_)
    refine J.iload_n d_V_requireStoredByte_15 rfl rfl ?_
    refine J.if_lt d_V_requireStoredByte_16 (tgt := 24) (by decide) (fun _ => thr) (fun h3 => ?_)
    refine J.iload_n d_V_requireStoredByte_19 rfl rfl ?_
    refine J.iconst d_V_requireStoredByte_20 (v := nI 4) (by decide) ?_
    refine J.icmp_lt d_V_requireStoredByte_21 (tgt := 32) (by decide) (fun h4 => ?_) (fun _ => thr)
    exfalso
    rcases hx with z | z | z | z
    · exact h1 z
    · exact h2 z
    · exact h3 z
    · exact absurd h4 (Int32.not_lt.mpr z)
end SMALL
