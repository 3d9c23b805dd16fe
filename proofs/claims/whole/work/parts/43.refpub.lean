/-! The reference's public methods, one case a row (the short ones) -/
section REFPUB
variable {l : Launch} {P : Nat → va_E} {K Mo co sz os : Nat} {dr al us by_ ln pl ou rd sp rw : Nat → Nat} {Y : List va_E}
theorem con_R_thrown : Con l i_R_thrown [.ref 15] (RM P K Mo co dr sz al us by_ ln pl os ou rd sp rw Y) (.inl (some (.int (nI co)), (RM P K Mo co dr sz al us by_ ln pl os ou rd sp rw Y))) := by
  refine Con.of ?_
  refine J.aload_n d_R_thrown_0 rfl rfl ?_
  refine J.getfield d_R_thrown_1 fl_R_59 rfl rfl ?_
  exact J.ireturn d_R_thrown_4 rfl (by decide) (by decide)
theorem con_R_scrap : Con l i_R_scrap [.ref 15] (RM P K Mo co dr sz al us by_ ln pl os ou rd sp rw Y) (.inl (none, (RM P K Mo 0 dr 0 al us by_ ln pl os ou rd sp rw Y))) := by
  refine Con.of ?_
  refine J.aload_n d_R_scrap_0 rfl rfl ?_
  refine J.iconst d_R_scrap_1 (v := nI 0) (by decide) ?_
  refine J.putfield d_R_scrap_2 (fs_R_59 _) rfl (Nat.le_of_ble_eq_true rfl) rfl rfl ?_
  refine J.aload_n d_R_scrap_5 rfl rfl ?_
  refine J.iconst d_R_scrap_6 (v := nI 0) (by decide) ?_
  refine J.putfield d_R_scrap_7 (fs_R_62 _) rfl (Nat.le_of_ble_eq_true rfl) rfl rfl ?_
  exact J.vreturn d_R_scrap_10 rfl (by decide) (by decide)
theorem con_R_isObj1 {o : Nat} (ho : o < 6) (M : List va_E) : Con l i_R_isObject [.int (nI o)] M (.inl (some (.int (nI 1)), M)) := by
  refine Con.of ?_
  refine J.iload_n d_R_isObject_0 rfl rfl ?_
  refine J.if_ltN d_R_isObject_1 (tgt := 14) (by decide) (by omega) (fun _ => ?_)
  refine J.iload_n d_R_isObject_4 rfl rfl ?_
  refine J.bipush d_R_isObject_5 (v := nI 6) (by decide) ?_
  refine J.icmp_geN d_R_isObject_7 (tgt := 14) (by decide) (by omega) (by omega) (fun h => ?_) (fun h => ?_)
  · omega
  · refine J.iconst d_R_isObject_10 (v := nI 1) (by decide) ?_
    refine J.goto d_R_isObject_11 (tgt := 15) (by decide) ?_
    first | exact J.zreturn d_R_isObject_15 rfl rfl (by decide) (by decide) | exact J.zreturnN d_R_isObject_15 rfl (by omega) (by decide) (by decide)
theorem con_R_isObj0 {x : Int32} (hx : x < 0 ∨ nI 6 ≤ x) (M : List va_E) : Con l i_R_isObject [.int x] M (.inl (some (.int (nI 0)), M)) := by
  refine Con.of ?_
  refine J.iload_n d_R_isObject_0 rfl rfl ?_
  refine J.if_lt d_R_isObject_1 (tgt := 14) (by decide) (fun h => ?_) (fun h => ?_)
  · refine J.iconst d_R_isObject_14 (v := nI 0) (by decide) ?_
    first | exact J.zreturn d_R_isObject_15 rfl rfl (by decide) (by decide) | exact J.zreturnN d_R_isObject_15 rfl (by omega) (by decide) (by decide)
  refine J.iload_n d_R_isObject_4 rfl rfl ?_
  refine J.bipush d_R_isObject_5 (v := nI 6) (by decide) ?_
  refine J.icmp_ge d_R_isObject_7 (tgt := 14) (by decide) (fun h2 => ?_) (fun h2 => absurd (hx.resolve_left h) h2)
  refine J.iconst d_R_isObject_14 (v := nI 0) (by decide) ?_
  first | exact J.zreturn d_R_isObject_15 rfl rfl (by decide) (by decide) | exact J.zreturnN d_R_isObject_15 rfl (by omega) (by decide) (by decide)
theorem con_R_isDisk1 {o : Nat} (ho : o < 8) (M : List va_E) : Con l i_R_isDisk [.int (nI o)] M (.inl (some (.int (nI 1)), M)) := by
  refine Con.of ?_
  refine J.iload_n d_R_isDisk_0 rfl rfl ?_
  refine J.if_ltN d_R_isDisk_1 (tgt := 14) (by decide) (by omega) (fun _ => ?_)
  refine J.iload_n d_R_isDisk_4 rfl rfl ?_
  refine J.bipush d_R_isDisk_5 (v := nI 8) (by decide) ?_
  refine J.icmp_geN d_R_isDisk_7 (tgt := 14) (by decide) (by omega) (by omega) (fun h => ?_) (fun h => ?_)
  · omega
  · refine J.iconst d_R_isDisk_10 (v := nI 1) (by decide) ?_
    refine J.goto d_R_isDisk_11 (tgt := 15) (by decide) ?_
    first | exact J.zreturn d_R_isDisk_15 rfl rfl (by decide) (by decide) | exact J.zreturnN d_R_isDisk_15 rfl (by omega) (by decide) (by decide)
theorem con_R_isDisk0 {x : Int32} (hx : x < 0 ∨ nI 8 ≤ x) (M : List va_E) : Con l i_R_isDisk [.int x] M (.inl (some (.int (nI 0)), M)) := by
  refine Con.of ?_
  refine J.iload_n d_R_isDisk_0 rfl rfl ?_
  refine J.if_lt d_R_isDisk_1 (tgt := 14) (by decide) (fun h => ?_) (fun h => ?_)
  · refine J.iconst d_R_isDisk_14 (v := nI 0) (by decide) ?_
    first | exact J.zreturn d_R_isDisk_15 rfl rfl (by decide) (by decide) | exact J.zreturnN d_R_isDisk_15 rfl (by omega) (by decide) (by decide)
  refine J.iload_n d_R_isDisk_4 rfl rfl ?_
  refine J.bipush d_R_isDisk_5 (v := nI 8) (by decide) ?_
  refine J.icmp_ge d_R_isDisk_7 (tgt := 14) (by decide) (fun h2 => ?_) (fun h2 => absurd (hx.resolve_left h) h2)
  refine J.iconst d_R_isDisk_14 (v := nI 0) (by decide) ?_
  first | exact J.zreturn d_R_isDisk_15 rfl rfl (by decide) (by decide) | exact J.zreturnN d_R_isDisk_15 rfl (by omega) (by decide) (by decide)
theorem con_R_isThere1 {o : Nat} (ho : o < 6) (hl : 0 < ln o) (hln : ln o ≤ 32) : Con l i_R_isThere [.ref 15, .int (nI o)] (RM P K Mo co dr sz al us by_ ln pl os ou rd sp rw Y) (.inl (some (.int (nI 1)), (RM P K Mo co dr sz al us by_ ln pl os ou rd sp rw Y))) := by
  refine Con.of ?_
  refine J.iload_n d_R_isThere_0 rfl rfl ?_
  refine J.s1i (con_R_isObj1 ho _) k_R_isThere_R_isObject d_R_isThere_1 rfl ?_
  refine J.if_eqN d_R_isThere_4 (tgt := 20) (by decide) (by omega) (fun h => ?_) (fun h => ?_)
  · exact absurd h (by decide)
  refine J.aload_n d_R_isThere_7 rfl rfl ?_
  refine J.getfield d_R_isThere_8 fl_R_23 rfl rfl ?_
  refine J.iload_n d_R_isThere_11 rfl rfl ?_
  refine J.ialoadN d_R_isThere_12 rfl (by omega) (by omega) ?_
  refine J.if_leN d_R_isThere_13 (tgt := 20) (by decide) (by omega) (fun h => ?_) (fun h => ?_)
  · omega
  · refine J.iconst d_R_isThere_16 (v := nI 1) (by decide) ?_
    refine J.goto d_R_isThere_17 (tgt := 21) (by decide) ?_
    first | exact J.zreturn d_R_isThere_21 rfl rfl (by decide) (by decide) | exact J.zreturnN d_R_isThere_21 rfl (by omega) (by decide) (by decide)
theorem con_R_isThere0 {x : Int32} (hx : noO ln x) : Con l i_R_isThere [.ref 15, .int x] (RM P K Mo co dr sz al us by_ ln pl os ou rd sp rw Y) (.inl (some (.int (nI 0)), (RM P K Mo co dr sz al us by_ ln pl os ou rd sp rw Y))) := by
  have out : (x < 0 ∨ nI 6 ≤ x) → Con l i_R_isThere [.ref 15, .int x] (RM P K Mo co dr sz al us by_ ln pl os ou rd sp rw Y) (.inl (some (.int (nI 0)), (RM P K Mo co dr sz al us by_ ln pl os ou rd sp rw Y))) := by
    intro hx
    refine Con.of ?_
    refine J.iload_n d_R_isThere_0 rfl rfl ?_
    refine J.s1i (con_R_isObj0 hx _) k_R_isThere_R_isObject d_R_isThere_1 rfl ?_
    refine J.if_eqN d_R_isThere_4 (tgt := 20) (by decide) (by omega) (fun h => ?_) (fun h => ?_)
    · refine J.iconst d_R_isThere_20 (v := nI 0) (by decide) ?_
      first | exact J.zreturn d_R_isThere_21 rfl rfl (by decide) (by decide) | exact J.zreturnN d_R_isThere_21 rfl (by omega) (by decide) (by decide)
    · exact absurd rfl h
  rcases hx with hx | hx | ⟨o, ho, rfl, h0⟩
  · exact out (Or.inl hx)
  · exact out (Or.inr hx)
  · refine Con.of ?_
    refine J.iload_n d_R_isThere_0 rfl rfl ?_
    refine J.s1i (con_R_isObj1 ho _) k_R_isThere_R_isObject d_R_isThere_1 rfl ?_
    refine J.if_eqN d_R_isThere_4 (tgt := 20) (by decide) (by omega) (fun h => ?_) (fun h => ?_)
    · exact absurd h (by decide)
    refine J.aload_n d_R_isThere_7 rfl rfl ?_
    refine J.getfield d_R_isThere_8 fl_R_23 rfl rfl ?_
    refine J.iload_n d_R_isThere_11 rfl rfl ?_
    refine J.ialoadN d_R_isThere_12 rfl (by omega) (by omega) ?_
    rw [h0]
    refine J.if_leN d_R_isThere_13 (tgt := 20) (by decide) (by omega) (fun h => ?_) (fun h => ?_)
    · refine J.iconst d_R_isThere_20 (v := nI 0) (by decide) ?_
      first | exact J.zreturn d_R_isThere_21 rfl rfl (by decide) (by decide) | exact J.zreturnN d_R_isThere_21 rfl (by omega) (by decide) (by decide)
    · exact absurd h (by decide)
theorem con_R_drop1 {o : Nat} (h2 : ∀ i, us i < 2) (hp : ∀ i, pl i ≤ 80) (ho : o < 6) (hl : 0 < ln o) (hln : ln o ≤ 32) : Con l i_R_drop [.ref 15, .int (nI o)] (RM P K Mo co dr sz al us by_ ln pl os ou rd sp rw Y) (.inl (some (.int (nI (clS o (0, us, pl) 56).1)), (RM P K Mo 0 dr sz al ((clS o (0, us, pl) 56).2.1) by_ (up ln o 0) ((clS o (0, us, pl) 56).2.2) os ou rd sp rw Y))) := by
  refine Con.of ?_
  refine J.aload_n d_R_drop_0 rfl rfl ?_
  refine J.aload_n d_R_drop_1 rfl rfl ?_
  refine J.iload_n d_R_drop_2 rfl rfl ?_
  refine J.v1i (con_R_isThere1 ho hl hln) k_R_drop_R_isThere d_R_drop_3 rfl rfl rfl ?_
  refine J.if_eqN d_R_drop_6 (tgt := 13) (by decide) (by omega) (fun h => ?_) (fun h => ?_)
  · exact absurd h (by decide)
  refine J.iconst d_R_drop_9 (v := nI 0) (by decide) ?_
  refine J.goto d_R_drop_10 (tgt := 14) (by decide) ?_
  refine J.putfield d_R_drop_14 (fs_R_59 _) rfl (Nat.le_of_ble_eq_true rfl) rfl rfl ?_
  refine J.aload_n d_R_drop_17 rfl rfl ?_
  refine J.getfield d_R_drop_18 fl_R_59 rfl rfl ?_
  refine J.if_leN d_R_drop_21 (tgt := 28) (by decide) (by omega) (fun h => ?_) (fun h => ?_)
  · refine J.aload_n d_R_drop_28 rfl rfl ?_
    refine J.iload_n d_R_drop_29 rfl rfl ?_
    have hc := con_R_clear (l := l) (P := P) (K := K) (Mo := Mo) (co := 0) (sz := sz) (os := os) (dr := dr) (al := al) (us := us) (by_ := by_) (ln := ln) (pl := pl) (ou := ou) (rd := rd) (sp := sp) (rw := rw) (Y := Y) h2 hp ho
    generalize clS o (0, us, pl) 56 = z at hc ⊢
    refine J.v1i hc k_R_drop_R_clear d_R_drop_30 rfl rfl rfl ?_
    exact J.ireturn d_R_drop_33 rfl (by decide) (by decide)
  · exact absurd h (by decide)
theorem con_R_drop0 {x : Int32} (hx : noO ln x) : Con l i_R_drop [.ref 15, .int x] (RM P K Mo co dr sz al us by_ ln pl os ou rd sp rw Y) (.inl (some (.int (nI 0)), (RM P K Mo 1 dr sz al us by_ ln pl os ou rd sp rw Y))) := by
  refine Con.of ?_
  refine J.aload_n d_R_drop_0 rfl rfl ?_
  refine J.aload_n d_R_drop_1 rfl rfl ?_
  refine J.iload_n d_R_drop_2 rfl rfl ?_
  refine J.v1i (con_R_isThere0 hx) k_R_drop_R_isThere d_R_drop_3 rfl rfl rfl ?_
  refine J.if_eqN d_R_drop_6 (tgt := 13) (by decide) (by omega) (fun h => ?_) (fun h => ?_)
  · refine J.iconst d_R_drop_13 (v := nI 1) (by decide) ?_
    refine J.putfield d_R_drop_14 (fs_R_59 _) rfl (Nat.le_of_ble_eq_true rfl) rfl rfl ?_
    refine J.aload_n d_R_drop_17 rfl rfl ?_
    refine J.getfield d_R_drop_18 fl_R_59 rfl rfl ?_
    refine J.if_leN d_R_drop_21 (tgt := 28) (by decide) (by omega) (fun h2 => ?_) (fun h2 => ?_)
    · exact absurd h2 (by decide)
    · refine J.iconst d_R_drop_24 (v := nI 0) (by decide) ?_
      refine J.goto d_R_drop_25 (tgt := 33) (by decide) ?_
      exact J.ireturn d_R_drop_33 rfl (by decide) (by decide)
  · exact absurd rfl h
theorem con_R_at1 {i : Nat} (hi : i < os) (ho : os ≤ 32) : Con l i_R_at [.ref 15, .int (nI i)] (RM P K Mo co dr sz al us by_ ln pl os ou rd sp rw Y) (.inl (some (.int (nI (ou i))), (RM P K Mo 0 dr sz al us by_ ln pl os ou rd sp rw Y))) := by
  refine Con.of ?_
  refine J.aload_n d_R_at_0 rfl rfl ?_
  refine J.iload_n d_R_at_1 rfl rfl ?_
  refine J.if_ltN d_R_at_2 (tgt := 13) (by decide) (by omega) (fun _ => ?_)
  refine J.iload_n d_R_at_5 rfl rfl ?_
  refine J.aload_n d_R_at_6 rfl rfl ?_
  refine J.getfield d_R_at_7 fl_R_118 rfl rfl ?_
  refine J.icmp_ltN d_R_at_10 (tgt := 17) (by decide) (by omega) (by omega) (fun h => ?_) (fun h => ?_)
  · refine J.iconst d_R_at_17 (v := nI 0) (by decide) ?_
    refine J.putfield d_R_at_18 (fs_R_59 _) rfl (Nat.le_of_ble_eq_true rfl) rfl rfl ?_
    refine J.aload_n d_R_at_21 rfl rfl ?_
    refine J.getfield d_R_at_22 fl_R_59 rfl rfl ?_
    refine J.if_leN d_R_at_25 (tgt := 32) (by decide) (by omega) (fun h2 => ?_) (fun h2 => ?_)
    · refine J.aload_n d_R_at_32 rfl rfl ?_
      refine J.getfield d_R_at_33 fl_R_32 rfl rfl ?_
      refine J.iload_n d_R_at_36 rfl rfl ?_
      refine J.ialoadN d_R_at_37 rfl (by omega) (by omega) ?_
      exact J.ireturn d_R_at_38 rfl (by decide) (by decide)
    · exact absurd h2 (by decide)
  · omega
theorem con_R_at0 {x : Int32} (hx : x < 0 ∨ nI os ≤ x) : Con l i_R_at [.ref 15, .int x] (RM P K Mo co dr sz al us by_ ln pl os ou rd sp rw Y) (.inl (some (.int (nI 0)), (RM P K Mo 1 dr sz al us by_ ln pl os ou rd sp rw Y))) := by
  have fin : J l i_R_at 13 [(0, .ref 15), (1, .int x)] [.ref 15] (RM P K Mo co dr sz al us by_ ln pl os ou rd sp rw Y) 0 0 (.inl (some (.int (nI 0)), (RM P K Mo 1 dr sz al us by_ ln pl os ou rd sp rw Y))) := by
    refine J.iconst d_R_at_13 (v := nI 1) (by decide) ?_
    refine J.goto d_R_at_14 (tgt := 18) (by decide) ?_
    refine J.putfield d_R_at_18 (fs_R_59 _) rfl (Nat.le_of_ble_eq_true rfl) rfl rfl ?_
    refine J.aload_n d_R_at_21 rfl rfl ?_
    refine J.getfield d_R_at_22 fl_R_59 rfl rfl ?_
    refine J.if_leN d_R_at_25 (tgt := 32) (by decide) (by omega) (fun h2 => ?_) (fun h2 => ?_)
    · exact absurd h2 (by decide)
    · refine J.iconst d_R_at_28 (v := nI 0) (by decide) ?_
      refine J.goto d_R_at_29 (tgt := 38) (by decide) ?_
      exact J.ireturn d_R_at_38 rfl (by decide) (by decide)
  refine Con.of ?_
  refine J.aload_n d_R_at_0 rfl rfl ?_
  refine J.iload_n d_R_at_1 rfl rfl ?_
  refine J.if_lt d_R_at_2 (tgt := 13) (by decide) (fun _ => fin) (fun h => ?_)
  refine J.iload_n d_R_at_5 rfl rfl ?_
  refine J.aload_n d_R_at_6 rfl rfl ?_
  refine J.getfield d_R_at_7 fl_R_118 rfl rfl ?_
  refine J.icmp_lt d_R_at_10 (tgt := 17) (by decide) (fun h2 => absurd h2 (Int32.not_lt.mpr (hx.resolve_left h))) (fun _ => fin)
theorem con_R_renew1 {d : Nat} (hd : d < 8) (ha : al d = 0) (h2 : ∀ i, al i < 2) : Con l i_R_renew [.ref 15, .int (nI d)] (RM P K Mo co dr sz al us by_ ln pl os ou rd sp rw Y) (.inl (some (.int (nI (cs (up al d 1) 8))), (RM P K Mo 0 dr sz (up al d 1) us by_ ln pl os ou rd sp rw Y))) := by
  have hu := up_lt (i := d) (v := 1) h2 (by decide)
  have lp : ∀ (j i : Nat), i + j = 8 → J l i_R_renew 49 [(0, .ref 15), (1, .int (nI d)), (2, .int (nI (cs (up al d 1) i))), (3, .int (nI i))] [] (RM P K Mo 0 dr sz (up al d 1) us by_ ln pl os ou rd sp rw Y) 0 0 (.inl (some (.int (nI (cs (up al d 1) 8))), (RM P K Mo 0 dr sz (up al d 1) us by_ ln pl os ou rd sp rw Y))) := by
    intro j
    induction j with
    | zero =>
      intro i hi
      have hi' : i = 8 := by omega
      rw [hi']
      refine J.iload_n d_R_renew_49 rfl rfl ?_
      refine J.bipush d_R_renew_50 (v := nI 8) (by decide) ?_
      refine J.icmp_geN d_R_renew_52 (tgt := 78) (by decide) (by omega) (by omega) (fun h => ?_) (fun h => ?_)
      · refine J.iload_n d_R_renew_78 rfl rfl ?_
        exact J.ireturn d_R_renew_79 rfl (by decide) (by decide)
      · omega
    | succ j ihj =>
      intro i hi
      have ih := ihj (i + 1) (by omega)
      have hui := hu i
      have e : cs (up al d 1) (i + 1) = cs (up al d 1) i + up al d 1 i := rfl
      rw [e] at ih
      refine J.iload_n d_R_renew_49 rfl rfl ?_
      refine J.bipush d_R_renew_50 (v := nI 8) (by decide) ?_
      refine J.icmp_geN d_R_renew_52 (tgt := 78) (by decide) (by omega) (by omega) (fun h => ?_) (fun h => ?_)
      · omega
      refine J.aload_n d_R_renew_55 rfl rfl ?_
      refine J.getfield d_R_renew_56 fl_R_13 rfl rfl ?_
      refine J.iload_n d_R_renew_59 rfl rfl ?_
      refine J.baloadN d_R_renew_60 rfl (by omega) (by omega) ?_
      refine J.if_eqN d_R_renew_61 (tgt := 70) (by decide) (by omega) (fun h3 => ?_) (fun h3 => ?_)
      · rw [h3] at ih
        refine J.iload_n d_R_renew_70 rfl rfl ?_
        refine J.istore_n d_R_renew_71 rfl (by decide) rfl ?_
        refine J.iincN d_R_renew_72 rfl rfl (by decide) rfl ?_
        refine J.goto d_R_renew_75 (tgt := 49) (by decide) ?_
        exact ih
      · rw [show up al d 1 i = 1 by omega] at ih
        refine J.iload_n d_R_renew_64 rfl rfl ?_
        refine J.iconst d_R_renew_65 (v := nI 1) (by decide) ?_
        refine J.iaddN d_R_renew_66 ?_
        refine J.goto d_R_renew_67 (tgt := 71) (by decide) ?_
        refine J.istore_n d_R_renew_71 rfl (by decide) rfl ?_
        refine J.iincN d_R_renew_72 rfl rfl (by decide) rfl ?_
        refine J.goto d_R_renew_75 (tgt := 49) (by decide) ?_
        exact ih
  refine Con.of ?_
  refine J.aload_n d_R_renew_0 rfl rfl ?_
  refine J.iload_n d_R_renew_1 rfl rfl ?_
  refine J.s1i (con_R_isDisk1 hd _) k_R_renew_R_isDisk d_R_renew_2 rfl ?_
  refine J.if_neN d_R_renew_5 (tgt := 12) (by decide) (by omega) (fun h => ?_) (fun h => ?_)
  · refine J.aload_n d_R_renew_12 rfl rfl ?_
    refine J.getfield d_R_renew_13 fl_R_13 rfl rfl ?_
    refine J.iload_n d_R_renew_16 rfl rfl ?_
    refine J.baloadN d_R_renew_17 rfl (by omega) (by omega) ?_
    rw [ha]
    refine J.if_eqN d_R_renew_18 (tgt := 25) (by decide) (by omega) (fun h3 => ?_) (fun h3 => ?_)
    · refine J.iconst d_R_renew_25 (v := nI 0) (by decide) ?_
      refine J.putfield d_R_renew_26 (fs_R_59 _) rfl (Nat.le_of_ble_eq_true rfl) rfl rfl ?_
      refine J.aload_n d_R_renew_29 rfl rfl ?_
      refine J.getfield d_R_renew_30 fl_R_59 rfl rfl ?_
      refine J.if_leN d_R_renew_33 (tgt := 38) (by decide) (by omega) (fun h4 => ?_) (fun h4 => ?_)
      · refine J.aload_n d_R_renew_38 rfl rfl ?_
        refine J.getfield d_R_renew_39 fl_R_13 rfl rfl ?_
        refine J.iload_n d_R_renew_42 rfl rfl ?_
        refine J.iconst d_R_renew_43 (v := nI 1) (by decide) ?_
        refine J.bastoreN d_R_renew_44 rfl (by omega) (by omega) (by omega) ?_
        refine J.iconst d_R_renew_45 (v := nI 0) (by decide) ?_
        refine J.istore_n d_R_renew_46 rfl (by decide) rfl ?_
        refine J.iconst d_R_renew_47 (v := nI 0) (by decide) ?_
        refine J.istore_n d_R_renew_48 rfl (by decide) rfl ?_
        exact lp 8 0 (by omega)
      · exact absurd h4 (by decide)
    · exact absurd rfl h3
  · exact absurd h (by decide)
theorem con_R_renew0 {x : Int32} (hx : x < 0 ∨ nI 8 ≤ x) : Con l i_R_renew [.ref 15, .int x] (RM P K Mo co dr sz al us by_ ln pl os ou rd sp rw Y) (.inl (some (.int (nI 0)), (RM P K Mo 1 dr sz al us by_ ln pl os ou rd sp rw Y))) := by
  refine Con.of ?_
  refine J.aload_n d_R_renew_0 rfl rfl ?_
  refine J.iload_n d_R_renew_1 rfl rfl ?_
  refine J.s1i (con_R_isDisk0 hx _) k_R_renew_R_isDisk d_R_renew_2 rfl ?_
  refine J.if_neN d_R_renew_5 (tgt := 12) (by decide) (by omega) (fun h => ?_) (fun h => ?_)
  · exact absurd rfl h
  · refine J.iconst d_R_renew_8 (v := nI 1) (by decide) ?_
    refine J.goto d_R_renew_9 (tgt := 26) (by decide) ?_
    refine J.putfield d_R_renew_26 (fs_R_59 _) rfl (Nat.le_of_ble_eq_true rfl) rfl rfl ?_
    refine J.aload_n d_R_renew_29 rfl rfl ?_
    refine J.getfield d_R_renew_30 fl_R_59 rfl rfl ?_
    refine J.if_leN d_R_renew_33 (tgt := 38) (by decide) (by omega) (fun h4 => ?_) (fun h4 => ?_)
    · exact absurd h4 (by decide)
    · refine J.iconst d_R_renew_36 (v := nI 0) (by decide) ?_
      exact J.ireturn d_R_renew_37 rfl (by decide) (by decide)
theorem con_R_renew2 {d : Nat} (hd : d < 8) (ha : al d = 1) : Con l i_R_renew [.ref 15, .int (nI d)] (RM P K Mo co dr sz al us by_ ln pl os ou rd sp rw Y) (.inl (some (.int (nI 0)), (RM P K Mo 2 dr sz al us by_ ln pl os ou rd sp rw Y))) := by
  refine Con.of ?_
  refine J.aload_n d_R_renew_0 rfl rfl ?_
  refine J.iload_n d_R_renew_1 rfl rfl ?_
  refine J.s1i (con_R_isDisk1 hd _) k_R_renew_R_isDisk d_R_renew_2 rfl ?_
  refine J.if_neN d_R_renew_5 (tgt := 12) (by decide) (by omega) (fun h => ?_) (fun h => ?_)
  · refine J.aload_n d_R_renew_12 rfl rfl ?_
    refine J.getfield d_R_renew_13 fl_R_13 rfl rfl ?_
    refine J.iload_n d_R_renew_16 rfl rfl ?_
    refine J.baloadN d_R_renew_17 rfl (by omega) (by omega) ?_
    rw [ha]
    refine J.if_eqN d_R_renew_18 (tgt := 25) (by decide) (by omega) (fun h3 => ?_) (fun h3 => ?_)
    · exact absurd h3 (by decide)
    · refine J.iconst d_R_renew_21 (v := nI 2) (by decide) ?_
      refine J.goto d_R_renew_22 (tgt := 26) (by decide) ?_
      refine J.putfield d_R_renew_26 (fs_R_59 _) rfl (Nat.le_of_ble_eq_true rfl) rfl rfl ?_
      refine J.aload_n d_R_renew_29 rfl rfl ?_
      refine J.getfield d_R_renew_30 fl_R_59 rfl rfl ?_
      refine J.if_leN d_R_renew_33 (tgt := 38) (by decide) (by omega) (fun h4 => ?_) (fun h4 => ?_)
      · exact absurd h4 (by decide)
      · refine J.iconst d_R_renew_36 (v := nI 0) (by decide) ?_
        exact J.ireturn d_R_renew_37 rfl (by decide) (by decide)
  · exact absurd h (by decide)
theorem con_R_ref0 {d s i : Nat} (hd : d < 8) (hs : s < 10) (hi : i < 4) (hu : us (10 * d + s) = 1) : Con l i_R_refusal [.ref 15, .int (nI d), .int (nI s), .int (nI i)] (RM P K Mo co dr sz al us by_ ln pl os ou rd sp rw Y) (.inl (some (.int (nI 0)), (RM P K Mo co dr sz al us by_ ln pl os ou rd sp rw Y))) := by
  refine Con.of ?_
  refine J.iload_n d_R_refusal_0 rfl rfl ?_
  refine J.s1i (con_R_isDisk1 hd _) k_R_refusal_R_isDisk d_R_refusal_1 rfl ?_
  refine J.if_eqN d_R_refusal_4 (tgt := 26) (by decide) (by omega) (fun h => ?_) (fun h => ?_)
  · exact absurd h (by decide)
  refine J.iload_n d_R_refusal_7 rfl rfl ?_
  refine J.if_ltN d_R_refusal_8 (tgt := 26) (by decide) (by omega) (fun _ => ?_)
  refine J.iload_n d_R_refusal_11 rfl rfl ?_
  refine J.bipush d_R_refusal_12 (v := nI 9) (by decide) ?_
  refine J.icmp_gtN d_R_refusal_14 (tgt := 26) (by decide) (by omega) (by omega) (fun h => ?_) (fun h => ?_)
  · omega
  refine J.iload_n d_R_refusal_17 rfl rfl ?_
  refine J.if_ltN d_R_refusal_18 (tgt := 26) (by decide) (by omega) (fun _ => ?_)
  refine J.iload_n d_R_refusal_21 rfl rfl ?_
  refine J.iconst d_R_refusal_22 (v := nI 3) (by decide) ?_
  refine J.icmp_leN d_R_refusal_23 (tgt := 30) (by decide) (by omega) (by omega) (fun h => ?_) (fun h => ?_)
  · refine J.aload_n d_R_refusal_30 rfl rfl ?_
    refine J.getfield d_R_refusal_31 fl_R_17 rfl rfl ?_
    refine J.bipush d_R_refusal_34 (v := nI 10) (by decide) ?_
    refine J.iload_n d_R_refusal_36 rfl rfl ?_
    refine J.imulN d_R_refusal_37 ?_
    refine J.iload_n d_R_refusal_38 rfl rfl ?_
    refine J.iaddN d_R_refusal_39 ?_
    refine J.baloadN d_R_refusal_40 rfl (by omega) (by omega) ?_
    rw [hu]
    refine J.if_neN d_R_refusal_41 (tgt := 48) (by decide) (by omega) (fun h3 => ?_) (fun h3 => ?_)
    · refine J.iconst d_R_refusal_48 (v := nI 0) (by decide) ?_
      exact J.ireturn d_R_refusal_49 rfl (by decide) (by decide)
    · exact absurd h3 (by decide)
  · omega
theorem con_R_ref2 {d s i : Nat} (hd : d < 8) (hs : s < 10) (hi : i < 4) (hu : us (10 * d + s) = 0) : Con l i_R_refusal [.ref 15, .int (nI d), .int (nI s), .int (nI i)] (RM P K Mo co dr sz al us by_ ln pl os ou rd sp rw Y) (.inl (some (.int (nI 2)), (RM P K Mo co dr sz al us by_ ln pl os ou rd sp rw Y))) := by
  refine Con.of ?_
  refine J.iload_n d_R_refusal_0 rfl rfl ?_
  refine J.s1i (con_R_isDisk1 hd _) k_R_refusal_R_isDisk d_R_refusal_1 rfl ?_
  refine J.if_eqN d_R_refusal_4 (tgt := 26) (by decide) (by omega) (fun h => ?_) (fun h => ?_)
  · exact absurd h (by decide)
  refine J.iload_n d_R_refusal_7 rfl rfl ?_
  refine J.if_ltN d_R_refusal_8 (tgt := 26) (by decide) (by omega) (fun _ => ?_)
  refine J.iload_n d_R_refusal_11 rfl rfl ?_
  refine J.bipush d_R_refusal_12 (v := nI 9) (by decide) ?_
  refine J.icmp_gtN d_R_refusal_14 (tgt := 26) (by decide) (by omega) (by omega) (fun h => ?_) (fun h => ?_)
  · omega
  refine J.iload_n d_R_refusal_17 rfl rfl ?_
  refine J.if_ltN d_R_refusal_18 (tgt := 26) (by decide) (by omega) (fun _ => ?_)
  refine J.iload_n d_R_refusal_21 rfl rfl ?_
  refine J.iconst d_R_refusal_22 (v := nI 3) (by decide) ?_
  refine J.icmp_leN d_R_refusal_23 (tgt := 30) (by decide) (by omega) (by omega) (fun h => ?_) (fun h => ?_)
  · refine J.aload_n d_R_refusal_30 rfl rfl ?_
    refine J.getfield d_R_refusal_31 fl_R_17 rfl rfl ?_
    refine J.bipush d_R_refusal_34 (v := nI 10) (by decide) ?_
    refine J.iload_n d_R_refusal_36 rfl rfl ?_
    refine J.imulN d_R_refusal_37 ?_
    refine J.iload_n d_R_refusal_38 rfl rfl ?_
    refine J.iaddN d_R_refusal_39 ?_
    refine J.baloadN d_R_refusal_40 rfl (by omega) (by omega) ?_
    rw [hu]
    refine J.if_neN d_R_refusal_41 (tgt := 48) (by decide) (by omega) (fun h3 => ?_) (fun h3 => ?_)
    · exact absurd rfl h3
    · refine J.iconst d_R_refusal_44 (v := nI 2) (by decide) ?_
      refine J.goto d_R_refusal_45 (tgt := 49) (by decide) ?_
      exact J.ireturn d_R_refusal_49 rfl (by decide) (by decide)
  · omega
theorem gt_of_ge {x : Int32} {a b : Nat} (hb : b = a + 1) (hb2 : b < 2 ^ 31) (h : nI b ≤ x) : nI a < x := by
  rw [Int32.le_iff_toInt_le, nI_toInt hb2] at h
  rw [Int32.lt_iff_toInt_lt, nI_toInt (by omega)]
  omega
theorem con_R_ref1 {d s i : Int32} (hx : noB d s i) : Con l i_R_refusal [.ref 15, .int d, .int s, .int i] (RM P K Mo co dr sz al us by_ ln pl os ou rd sp rw Y) (.inl (some (.int (nI 1)), (RM P K Mo co dr sz al us by_ ln pl os ou rd sp rw Y))) := by
  have fin : ∀ {lv}, J l i_R_refusal 26 lv [] (RM P K Mo co dr sz al us by_ ln pl os ou rd sp rw Y) 0 0 (.inl (some (.int (nI 1)), (RM P K Mo co dr sz al us by_ ln pl os ou rd sp rw Y))) := by
    intro lv
    refine J.iconst d_R_refusal_26 (v := nI 1) (by decide) ?_
    refine J.goto d_R_refusal_27 (tgt := 49) (by decide) ?_
    exact J.ireturn d_R_refusal_49 rfl (by decide) (by decide)
  rcases hx with hx | ⟨⟨d', hd, rfl⟩, hx⟩
  · refine Con.of ?_
    refine J.iload_n d_R_refusal_0 rfl rfl ?_
    refine J.s1i (con_R_isDisk0 hx _) k_R_refusal_R_isDisk d_R_refusal_1 rfl ?_
    refine J.if_eqN d_R_refusal_4 (tgt := 26) (by decide) (by omega) (fun h => ?_) (fun h => ?_)
    · exact fin
    · exact absurd rfl h
  · refine Con.of ?_
    refine J.iload_n d_R_refusal_0 rfl rfl ?_
    refine J.s1i (con_R_isDisk1 hd _) k_R_refusal_R_isDisk d_R_refusal_1 rfl ?_
    refine J.if_eqN d_R_refusal_4 (tgt := 26) (by decide) (by omega) (fun h => ?_) (fun h => ?_)
    · exact absurd h (by decide)
    refine J.iload_n d_R_refusal_7 rfl rfl ?_
    refine J.if_lt d_R_refusal_8 (tgt := 26) (by decide) (fun _ => fin) (fun h1 => ?_)
    refine J.iload_n d_R_refusal_11 rfl rfl ?_
    refine J.bipush d_R_refusal_12 (v := nI 9) (by decide) ?_
    refine J.icmp_gt d_R_refusal_14 (tgt := 26) (by decide) (fun _ => fin) (fun h2 => ?_)
    refine J.iload_n d_R_refusal_17 rfl rfl ?_
    refine J.if_lt d_R_refusal_18 (tgt := 26) (by decide) (fun _ => fin) (fun h3 => ?_)
    refine J.iload_n d_R_refusal_21 rfl rfl ?_
    refine J.iconst d_R_refusal_22 (v := nI 3) (by decide) ?_
    refine J.icmp_le d_R_refusal_23 (tgt := 30) (by decide) (fun h4 => ?_) (fun _ => fin)
    exfalso
    rcases hx with z | z | z | z
    · exact h1 z
    · exact h2 (gt_of_ge rfl (by decide) z)
    · exact h3 z
    · exact absurd (gt_of_ge (a := 3) rfl (by decide) z) (Int32.not_lt.mpr h4)
theorem con_R_stored1 {d s i : Nat} (hd : d < 8) (hs : s < 10) (hi : i < 4) (hu : us (10 * d + s) = 1) : Con l i_R_stored [.ref 15, .int (nI d), .int (nI s), .int (nI i)] (RM P K Mo co dr sz al us by_ ln pl os ou rd sp rw Y) (.inl (some (.int (nI (by_ (4 * (10 * d + s) + i)))), (RM P K Mo 0 dr sz al us by_ ln pl os ou rd sp rw Y))) := by
  rw [show 4 * (10 * d + s) + i = 40 * d + 4 * s + i by omega]
  refine Con.of ?_
  refine J.aload_n d_R_stored_0 rfl rfl ?_
  refine J.aload_n d_R_stored_1 rfl rfl ?_
  refine J.iload_n d_R_stored_2 rfl rfl ?_
  refine J.iload_n d_R_stored_3 rfl rfl ?_
  refine J.iload_n d_R_stored_4 rfl rfl ?_
  refine J.v3i (con_R_ref0 hd hs hi hu) k_R_stored_R_refusal d_R_stored_5 rfl rfl rfl ?_
  refine J.putfield d_R_stored_8 (fs_R_59 _) rfl (Nat.le_of_ble_eq_true rfl) rfl rfl ?_
  refine J.aload_n d_R_stored_11 rfl rfl ?_
  refine J.getfield d_R_stored_12 fl_R_59 rfl rfl ?_
  refine J.if_leN d_R_stored_15 (tgt := 22) (by decide) (by omega) (fun h => ?_) (fun h => ?_)
  · refine J.aload_n d_R_stored_22 rfl rfl ?_
    refine J.getfield d_R_stored_23 fl_R_20 rfl rfl ?_
    refine J.bipush d_R_stored_26 (v := nI 40) (by decide) ?_
    refine J.iload_n d_R_stored_28 rfl rfl ?_
    refine J.imulN d_R_stored_29 ?_
    refine J.iconst d_R_stored_30 (v := nI 4) (by decide) ?_
    refine J.iload_n d_R_stored_31 rfl rfl ?_
    refine J.imulN d_R_stored_32 ?_
    refine J.iaddN d_R_stored_33 ?_
    refine J.iload_n d_R_stored_34 rfl rfl ?_
    refine J.iaddN d_R_stored_35 ?_
    refine J.ialoadN d_R_stored_36 rfl (by omega) (by omega) ?_
    exact J.ireturn d_R_stored_37 rfl (by decide) (by decide)
  · exact absurd h (by decide)
theorem con_R_stored2 {d s i : Nat} (hd : d < 8) (hs : s < 10) (hi : i < 4) (hu : us (10 * d + s) = 0) : Con l i_R_stored [.ref 15, .int (nI d), .int (nI s), .int (nI i)] (RM P K Mo co dr sz al us by_ ln pl os ou rd sp rw Y) (.inl (some (.int (nI 0)), (RM P K Mo 2 dr sz al us by_ ln pl os ou rd sp rw Y))) := by
  refine Con.of ?_
  refine J.aload_n d_R_stored_0 rfl rfl ?_
  refine J.aload_n d_R_stored_1 rfl rfl ?_
  refine J.iload_n d_R_stored_2 rfl rfl ?_
  refine J.iload_n d_R_stored_3 rfl rfl ?_
  refine J.iload_n d_R_stored_4 rfl rfl ?_
  refine J.v3i (con_R_ref2 hd hs hi hu) k_R_stored_R_refusal d_R_stored_5 rfl rfl rfl ?_
  refine J.putfield d_R_stored_8 (fs_R_59 _) rfl (Nat.le_of_ble_eq_true rfl) rfl rfl ?_
  refine J.aload_n d_R_stored_11 rfl rfl ?_
  refine J.getfield d_R_stored_12 fl_R_59 rfl rfl ?_
  refine J.if_leN d_R_stored_15 (tgt := 22) (by decide) (by omega) (fun h => ?_) (fun h => ?_)
  · exact absurd h (by decide)
  · refine J.iconst d_R_stored_18 (v := nI 0) (by decide) ?_
    refine J.goto d_R_stored_19 (tgt := 37) (by decide) ?_
    exact J.ireturn d_R_stored_37 rfl (by decide) (by decide)
theorem con_R_stored0 {d s i : Int32} (hx : noB d s i) : Con l i_R_stored [.ref 15, .int d, .int s, .int i] (RM P K Mo co dr sz al us by_ ln pl os ou rd sp rw Y) (.inl (some (.int (nI 0)), (RM P K Mo 1 dr sz al us by_ ln pl os ou rd sp rw Y))) := by
  refine Con.of ?_
  refine J.aload_n d_R_stored_0 rfl rfl ?_
  refine J.aload_n d_R_stored_1 rfl rfl ?_
  refine J.iload_n d_R_stored_2 rfl rfl ?_
  refine J.iload_n d_R_stored_3 rfl rfl ?_
  refine J.iload_n d_R_stored_4 rfl rfl ?_
  refine J.v3i (con_R_ref1 hx) k_R_stored_R_refusal d_R_stored_5 rfl rfl rfl ?_
  refine J.putfield d_R_stored_8 (fs_R_59 _) rfl (Nat.le_of_ble_eq_true rfl) rfl rfl ?_
  refine J.aload_n d_R_stored_11 rfl rfl ?_
  refine J.getfield d_R_stored_12 fl_R_59 rfl rfl ?_
  refine J.if_leN d_R_stored_15 (tgt := 22) (by decide) (by omega) (fun h => ?_) (fun h => ?_)
  · exact absurd h (by decide)
  · refine J.iconst d_R_stored_18 (v := nI 0) (by decide) ?_
    refine J.goto d_R_stored_19 (tgt := 37) (by decide) ?_
    exact J.ireturn d_R_stored_37 rfl (by decide) (by decide)
theorem con_R_harm1 {d s i : Nat} {x : Int32} (hd : d < 8) (hs : s < 10) (hi : i < 4) (hu : us (10 * d + s) = 1) : Con l i_R_harm [.ref 15, .int (nI d), .int (nI s), .int (nI i), .int x] (RM P K Mo co dr sz al us by_ ln pl os ou rd sp rw Y) (.inl (some (.int (nI (by_ (4 * (10 * d + s) + i) ^^^ (x.toBitVec.toNat % 256)))), (RM P K Mo 0 dr sz al us (up by_ (4 * (10 * d + s) + i) (by_ (4 * (10 * d + s) + i) ^^^ (x.toBitVec.toNat % 256))) ln pl os ou rd sp rw Y))) := by
  rw [show 4 * (10 * d + s) + i = 40 * d + 4 * s + i by omega]
  refine Con.of ?_
  refine J.aload_n d_R_harm_0 rfl rfl ?_
  refine J.aload_n d_R_harm_1 rfl rfl ?_
  refine J.iload_n d_R_harm_2 rfl rfl ?_
  refine J.iload_n d_R_harm_3 rfl rfl ?_
  refine J.iload_n d_R_harm_4 rfl rfl ?_
  refine J.v3i (con_R_ref0 hd hs hi hu) k_R_harm_R_refusal d_R_harm_5 rfl rfl rfl ?_
  refine J.putfield d_R_harm_8 (fs_R_59 _) rfl (Nat.le_of_ble_eq_true rfl) rfl rfl ?_
  refine J.aload_n d_R_harm_11 rfl rfl ?_
  refine J.getfield d_R_harm_12 fl_R_59 rfl rfl ?_
  refine J.if_leN d_R_harm_15 (tgt := 20) (by decide) (by omega) (fun h => ?_) (fun h => ?_)
  · refine J.bipush d_R_harm_20 (v := nI 40) (by decide) ?_
    refine J.iload_n d_R_harm_22 rfl rfl ?_
    refine J.imulN d_R_harm_23 ?_
    refine J.iconst d_R_harm_24 (v := nI 4) (by decide) ?_
    refine J.iload_n d_R_harm_25 rfl rfl ?_
    refine J.imulN d_R_harm_26 ?_
    refine J.iaddN d_R_harm_27 ?_
    refine J.iload_n d_R_harm_28 rfl rfl ?_
    refine J.iaddN d_R_harm_29 ?_
    refine J.istore d_R_harm_30 (by decide) rfl ?_
    refine J.aload_n d_R_harm_32 rfl rfl ?_
    refine J.getfield d_R_harm_33 fl_R_20 rfl rfl ?_
    refine J.iload d_R_harm_36 rfl ?_
    refine J.aload_n d_R_harm_38 rfl rfl ?_
    refine J.getfield d_R_harm_39 fl_R_20 rfl rfl ?_
    refine J.iload d_R_harm_42 rfl ?_
    refine J.ialoadN d_R_harm_44 rfl (by omega) (by omega) ?_
    refine J.iload d_R_harm_45 rfl ?_
    refine J.sipush d_R_harm_47 (v := nI 255) (by decide) ?_
    refine J.iand d_R_harm_50 ?_
    rw [and255]
    refine J.ixorN d_R_harm_51 ?_
    refine J.iastoreN d_R_harm_52 rfl (by omega) (by omega) ?_
    refine J.aload_n d_R_harm_53 rfl rfl ?_
    refine J.getfield d_R_harm_54 fl_R_20 rfl rfl ?_
    refine J.iload d_R_harm_57 rfl ?_
    refine J.ialoadN d_R_harm_59 rfl (by omega) (by omega) ?_
    rw [up_self]
    exact J.ireturn d_R_harm_60 rfl (by decide) (by decide)
  · exact absurd h (by decide)
theorem con_R_harm2 {d s i : Nat} {x : Int32} (hd : d < 8) (hs : s < 10) (hi : i < 4) (hu : us (10 * d + s) = 0) : Con l i_R_harm [.ref 15, .int (nI d), .int (nI s), .int (nI i), .int x] (RM P K Mo co dr sz al us by_ ln pl os ou rd sp rw Y) (.inl (some (.int (nI 0)), (RM P K Mo 2 dr sz al us by_ ln pl os ou rd sp rw Y))) := by
  refine Con.of ?_
  refine J.aload_n d_R_harm_0 rfl rfl ?_
  refine J.aload_n d_R_harm_1 rfl rfl ?_
  refine J.iload_n d_R_harm_2 rfl rfl ?_
  refine J.iload_n d_R_harm_3 rfl rfl ?_
  refine J.iload_n d_R_harm_4 rfl rfl ?_
  refine J.v3i (con_R_ref2 hd hs hi hu) k_R_harm_R_refusal d_R_harm_5 rfl rfl rfl ?_
  refine J.putfield d_R_harm_8 (fs_R_59 _) rfl (Nat.le_of_ble_eq_true rfl) rfl rfl ?_
  refine J.aload_n d_R_harm_11 rfl rfl ?_
  refine J.getfield d_R_harm_12 fl_R_59 rfl rfl ?_
  refine J.if_leN d_R_harm_15 (tgt := 20) (by decide) (by omega) (fun h => ?_) (fun h => ?_)
  · exact absurd h (by decide)
  · refine J.iconst d_R_harm_18 (v := nI 0) (by decide) ?_
    exact J.ireturn d_R_harm_19 rfl (by decide) (by decide)
theorem con_R_harm0 {d s i x : Int32} (hx : noB d s i) : Con l i_R_harm [.ref 15, .int d, .int s, .int i, .int x] (RM P K Mo co dr sz al us by_ ln pl os ou rd sp rw Y) (.inl (some (.int (nI 0)), (RM P K Mo 1 dr sz al us by_ ln pl os ou rd sp rw Y))) := by
  refine Con.of ?_
  refine J.aload_n d_R_harm_0 rfl rfl ?_
  refine J.aload_n d_R_harm_1 rfl rfl ?_
  refine J.iload_n d_R_harm_2 rfl rfl ?_
  refine J.iload_n d_R_harm_3 rfl rfl ?_
  refine J.iload_n d_R_harm_4 rfl rfl ?_
  refine J.v3i (con_R_ref1 hx) k_R_harm_R_refusal d_R_harm_5 rfl rfl rfl ?_
  refine J.putfield d_R_harm_8 (fs_R_59 _) rfl (Nat.le_of_ble_eq_true rfl) rfl rfl ?_
  refine J.aload_n d_R_harm_11 rfl rfl ?_
  refine J.getfield d_R_harm_12 fl_R_59 rfl rfl ?_
  refine J.if_leN d_R_harm_15 (tgt := 20) (by decide) (by omega) (fun h => ?_) (fun h => ?_)
  · exact absurd h (by decide)
  · refine J.iconst d_R_harm_18 (v := nI 0) (by decide) ?_
    exact J.ireturn d_R_harm_19 rfl (by decide) (by decide)
theorem con_R_where1 {o s h : Nat} (hK : 0 < K) (hK4 : K ≤ 4) (hS : K + Mo ≤ 7) (hp : ∀ i, pl i ≤ 80) (ho : o < 6) (hl : 0 < ln o) (hln : ln o ≤ 32) (hs : s < ns K (ln o)) (hh : h < K + Mo) : Con l i_R_where [.ref 15, .int (nI o), .int (nI s), .int (nI h)] (RM P K Mo co dr sz al us by_ ln pl os ou rd sp rw Y) (.inl (some (.int (pI (tr (pl (56 * o + 7 * s + h))))), (RM P K Mo 0 dr sz al us by_ ln pl os ou rd sp rw Y))) := by
  have hn8 := ns_le hK hln
  have hs8 : s < 8 := by omega
  have hpi := hp (56 * o + 7 * s + h)
  refine Con.of ?_
  refine J.aload_n d_R_where_0 rfl rfl ?_
  refine J.aload_n d_R_where_1 rfl rfl ?_
  refine J.iload_n d_R_where_2 rfl rfl ?_
  refine J.v1i (con_R_isThere1 ho hl hln) k_R_where_R_isThere d_R_where_3 rfl rfl rfl ?_
  refine J.if_neN d_R_where_6 (tgt := 13) (by decide) (by omega) (fun h1 => ?_) (fun h1 => ?_)
  · refine J.iload_n d_R_where_13 rfl rfl ?_
    refine J.if_ltN d_R_where_14 (tgt := 38) (by decide) (by omega) (fun _ => ?_)
    refine J.iload_n d_R_where_17 rfl rfl ?_
    refine J.aload_n d_R_where_18 rfl rfl ?_
    refine J.iload_n d_R_where_19 rfl rfl ?_
    refine J.v1i (con_R_stripesOf ho hK hK4 (by omega)) k_R_where_R_stripesOf d_R_where_20 rfl rfl rfl ?_
    refine J.icmp_geN d_R_where_23 (tgt := 38) (by decide) (by omega) (by omega) (fun h2 => ?_) (fun h2 => ?_)
    · omega
    refine J.iload_n d_R_where_26 rfl rfl ?_
    refine J.if_ltN d_R_where_27 (tgt := 38) (by decide) (by omega) (fun _ => ?_)
    refine J.iload_n d_R_where_30 rfl rfl ?_
    refine J.aload_n d_R_where_31 rfl rfl ?_
    refine J.v0i con_R_shards k_R_where_R_shards d_R_where_32 rfl rfl rfl ?_
    refine J.icmp_ltN d_R_where_35 (tgt := 42) (by decide) (by omega) (by omega) (fun h3 => ?_) (fun h3 => ?_)
    · refine J.iconst d_R_where_42 (v := nI 0) (by decide) ?_
      refine J.putfield d_R_where_43 (fs_R_59 _) rfl (Nat.le_of_ble_eq_true rfl) rfl rfl ?_
      refine J.aload_n d_R_where_46 rfl rfl ?_
      refine J.getfield d_R_where_47 fl_R_59 rfl rfl ?_
      refine J.if_leN d_R_where_50 (tgt := 55) (by decide) (by omega) (fun h4 => ?_) (fun h4 => ?_)
      · refine J.aload_n d_R_where_55 rfl rfl ?_
        refine J.iload_n d_R_where_56 rfl rfl ?_
        refine J.iload_n d_R_where_57 rfl rfl ?_
        refine J.iload_n d_R_where_58 rfl rfl ?_
        have hc := con_R_place (l := l) (P := P) (K := K) (Mo := Mo) (co := 0) (sz := sz) (os := os) (dr := dr) (al := al) (us := us) (by_ := by_) (ln := ln) (pl := pl) (ou := ou) (rd := rd) (sp := sp) (rw := rw) (Y := Y) ho hs8 (show h < 7 by omega)
        rcases Nat.eq_zero_or_pos (pl (56 * o + 7 * s + h)) with h0 | h0
        · rw [h0] at hc ⊢
          refine J.v3i hc k_R_where_R_place d_R_where_59 rfl rfl rfl ?_
          refine J.istore d_R_where_62 (by decide) rfl ?_
          refine J.iload d_R_where_64 rfl ?_
          refine J.if_geP d_R_where_66 (tgt := 73) (by decide) (by decide) (fun q => absurd q (by decide)) (fun _ => ?_)
          refine J.iconst d_R_where_69 (v := pI 0) (by decide) ?_
          refine J.goto d_R_where_70 (tgt := 87) (by decide) ?_
          exact J.ireturn d_R_where_87 rfl (by decide) (by decide)
        · obtain ⟨p, ep⟩ : ∃ p, pl (56 * o + 7 * s + h) = p + 1 := ⟨pl (56 * o + 7 * s + h) - 1, by omega⟩
          rw [ep, pI_succ] at hc
          rw [ep, tr_s, pI_succ]
          refine J.v3i hc k_R_where_R_place d_R_where_59 rfl rfl rfl ?_
          refine J.istore d_R_where_62 (by decide) rfl ?_
          refine J.iload d_R_where_64 rfl ?_
          refine J.if_geN d_R_where_66 (tgt := 73) (by decide) (by omega) (fun _ => ?_)
          refine J.bipush d_R_where_73 (v := nI 16) (by decide) ?_
          refine J.iload d_R_where_75 rfl ?_
          refine J.bipush d_R_where_77 (v := nI 10) (by decide) ?_
          refine J.idivN d_R_where_79 (by omega) (by omega) (by omega) ?_
          refine J.imulN d_R_where_80 ?_
          refine J.iload d_R_where_81 rfl ?_
          refine J.bipush d_R_where_83 (v := nI 10) (by decide) ?_
          refine J.iremN d_R_where_85 (by omega) (by omega) (by omega) ?_
          refine J.iaddN d_R_where_86 ?_
          exact J.ireturn d_R_where_87 rfl (by decide) (by decide)
      · exact absurd h4 (by decide)
    · omega
  · exact absurd h1 (by decide)
theorem con_R_where0 {x y z : Int32} (hx : noO ln x) : Con l i_R_where [.ref 15, .int x, .int y, .int z] (RM P K Mo co dr sz al us by_ ln pl os ou rd sp rw Y) (.inl (some (.int (nI 0)), (RM P K Mo 1 dr sz al us by_ ln pl os ou rd sp rw Y))) := by
  refine Con.of ?_
  refine J.aload_n d_R_where_0 rfl rfl ?_
  refine J.aload_n d_R_where_1 rfl rfl ?_
  refine J.iload_n d_R_where_2 rfl rfl ?_
  refine J.v1i (con_R_isThere0 hx) k_R_where_R_isThere d_R_where_3 rfl rfl rfl ?_
  refine J.if_neN d_R_where_6 (tgt := 13) (by decide) (by omega) (fun h => ?_) (fun h => ?_)
  · exact absurd rfl h
  · refine J.iconst d_R_where_9 (v := nI 1) (by decide) ?_
    refine J.goto d_R_where_10 (tgt := 43) (by decide) ?_
    refine J.putfield d_R_where_43 (fs_R_59 _) rfl (Nat.le_of_ble_eq_true rfl) rfl rfl ?_
    refine J.aload_n d_R_where_46 rfl rfl ?_
    refine J.getfield d_R_where_47 fl_R_59 rfl rfl ?_
    refine J.if_leN d_R_where_50 (tgt := 55) (by decide) (by omega) (fun h4 => ?_) (fun h4 => ?_)
    · exact absurd h4 (by decide)
    · refine J.iconst d_R_where_53 (v := nI 0) (by decide) ?_
      exact J.ireturn d_R_where_54 rfl (by decide) (by decide)
theorem con_R_where2 {o : Nat} {y z : Int32} (hK : 0 < K) (hK4 : K ≤ 4) (ho : o < 6) (hl : 0 < ln o) (hln : ln o ≤ 32) (hx : y < 0 ∨ nI (ns K (ln o)) ≤ y ∨ z < 0 ∨ nI (K + Mo) ≤ z) : Con l i_R_where [.ref 15, .int (nI o), .int y, .int z] (RM P K Mo co dr sz al us by_ ln pl os ou rd sp rw Y) (.inl (some (.int (nI 0)), (RM P K Mo 2 dr sz al us by_ ln pl os ou rd sp rw Y))) := by
  have fin : ∀ {k n}, k = 0 → n = 0 → J l i_R_where 38 [(0, .ref 15), (1, .int (nI o)), (2, .int y), (3, .int z)] [.ref 15] (RM P K Mo co dr sz al us by_ ln pl os ou rd sp rw Y) k n (.inl (some (.int (nI 0)), (RM P K Mo 2 dr sz al us by_ ln pl os ou rd sp rw Y))) := by
    intro k n hk hn
    subst hk hn
    refine J.iconst d_R_where_38 (v := nI 2) (by decide) ?_
    refine J.goto d_R_where_39 (tgt := 43) (by decide) ?_
    refine J.putfield d_R_where_43 (fs_R_59 _) rfl (Nat.le_of_ble_eq_true rfl) rfl rfl ?_
    refine J.aload_n d_R_where_46 rfl rfl ?_
    refine J.getfield d_R_where_47 fl_R_59 rfl rfl ?_
    refine J.if_leN d_R_where_50 (tgt := 55) (by decide) (by omega) (fun h4 => ?_) (fun h4 => ?_)
    · exact absurd h4 (by decide)
    · refine J.iconst d_R_where_53 (v := nI 0) (by decide) ?_
      exact J.ireturn d_R_where_54 rfl (by decide) (by decide)
  refine Con.of ?_
  refine J.aload_n d_R_where_0 rfl rfl ?_
  refine J.aload_n d_R_where_1 rfl rfl ?_
  refine J.iload_n d_R_where_2 rfl rfl ?_
  refine J.v1i (con_R_isThere1 ho hl hln) k_R_where_R_isThere d_R_where_3 rfl rfl rfl ?_
  refine J.if_neN d_R_where_6 (tgt := 13) (by decide) (by omega) (fun h1 => ?_) (fun h1 => ?_)
  · refine J.iload_n d_R_where_13 rfl rfl ?_
    refine J.if_lt d_R_where_14 (tgt := 38) (by decide) (fun _ => fin rfl rfl) (fun h1 => ?_)
    refine J.iload_n d_R_where_17 rfl rfl ?_
    refine J.aload_n d_R_where_18 rfl rfl ?_
    refine J.iload_n d_R_where_19 rfl rfl ?_
    refine J.v1i (con_R_stripesOf ho hK hK4 (by omega)) k_R_where_R_stripesOf d_R_where_20 rfl rfl rfl ?_
    refine J.icmp_ge d_R_where_23 (tgt := 38) (by decide) (fun _ => fin rfl rfl) (fun h2 => ?_)
    refine J.iload_n d_R_where_26 rfl rfl ?_
    refine J.if_lt d_R_where_27 (tgt := 38) (by decide) (fun _ => fin rfl rfl) (fun h3 => ?_)
    refine J.iload_n d_R_where_30 rfl rfl ?_
    refine J.aload_n d_R_where_31 rfl rfl ?_
    refine J.v0i con_R_shards k_R_where_R_shards d_R_where_32 rfl rfl rfl ?_
    refine J.icmp_lt d_R_where_35 (tgt := 42) (by decide) (fun h4 => ?_) (fun _ => fin rfl rfl)
    exfalso
    rcases hx with w | w | w | w
    · exact h1 w
    · exact h2 w
    · exact h3 w
    · exact absurd h4 (Int32.not_lt.mpr w)
  · exact absurd h1 (by decide)
theorem con_R_length1 {o : Nat} (ho : o < 6) (hl : 0 < ln o) (hln : ln o ≤ 32) : Con l i_R_length [.ref 15, .int (nI o)] (RM P K Mo co dr sz al us by_ ln pl os ou rd sp rw Y) (.inl (some (.int (nI (ln o))), (RM P K Mo 0 dr sz al us by_ ln pl os ou rd sp rw Y))) := by
  refine Con.of ?_
  refine J.aload_n d_R_length_0 rfl rfl ?_
  refine J.iconst d_R_length_1 (v := nI 0) (by decide) ?_
  refine J.putfield d_R_length_2 (fs_R_59 _) rfl (Nat.le_of_ble_eq_true rfl) rfl rfl ?_
  refine J.aload_n d_R_length_5 rfl rfl ?_
  refine J.iload_n d_R_length_6 rfl rfl ?_
  refine J.v1i (con_R_isThere1 ho hl hln) k_R_length_R_isThere d_R_length_7 rfl rfl rfl ?_
  refine J.if_eqN d_R_length_10 (tgt := 22) (by decide) (by omega) (fun h => ?_) (fun h => ?_)
  · exact absurd h (by decide)
  · refine J.aload_n d_R_length_13 rfl rfl ?_
    refine J.getfield d_R_length_14 fl_R_23 rfl rfl ?_
    refine J.iload_n d_R_length_17 rfl rfl ?_
    refine J.ialoadN d_R_length_18 rfl (by omega) (by omega) ?_
    refine J.goto d_R_length_19 (tgt := 23) (by decide) ?_
    exact J.ireturn d_R_length_23 rfl (by decide) (by decide)
theorem con_R_length0 {x : Int32} (hx : noO ln x) : Con l i_R_length [.ref 15, .int x] (RM P K Mo co dr sz al us by_ ln pl os ou rd sp rw Y) (.inl (some (.int (pI 0)), (RM P K Mo 0 dr sz al us by_ ln pl os ou rd sp rw Y))) := by
  refine Con.of ?_
  refine J.aload_n d_R_length_0 rfl rfl ?_
  refine J.iconst d_R_length_1 (v := nI 0) (by decide) ?_
  refine J.putfield d_R_length_2 (fs_R_59 _) rfl (Nat.le_of_ble_eq_true rfl) rfl rfl ?_
  refine J.aload_n d_R_length_5 rfl rfl ?_
  refine J.iload_n d_R_length_6 rfl rfl ?_
  refine J.v1i (con_R_isThere0 hx) k_R_length_R_isThere d_R_length_7 rfl rfl rfl ?_
  refine J.if_eqN d_R_length_10 (tgt := 22) (by decide) (by omega) (fun h => ?_) (fun h => ?_)
  · refine J.iconst d_R_length_22 (v := pI 0) (by decide) ?_
    exact J.ireturn d_R_length_23 rfl (by decide) (by decide)
  · exact absurd rfl h
theorem con_R_room1 {d : Nat} (hd : d < 8) (ha : al d = 1) (h2 : ∀ i, us i < 2) (ha2 : ∀ i, al i < 2) : Con l i_R_room [.ref 15, .int (nI d)] (RM P K Mo co dr sz al us by_ ln pl os ou rd sp rw Y) (.inl (some (.int (nI (10 - ud us d))), (RM P K Mo 0 dr sz al us by_ ln pl os ou rd sp rw Y))) := by
  have hf := con_R_free (l := l) (P := P) (K := K) (Mo := Mo) (co := 0) (sz := sz) (os := os) (dr := dr) (by_ := by_) (ln := ln) (pl := pl) (ou := ou) (rd := rd) (sp := sp) (rw := rw) (Y := Y) hd h2 ha2
  rw [if_neg (by omega)] at hf
  refine Con.of ?_
  refine J.aload_n d_R_room_0 rfl rfl ?_
  refine J.iconst d_R_room_1 (v := nI 0) (by decide) ?_
  refine J.putfield d_R_room_2 (fs_R_59 _) rfl (Nat.le_of_ble_eq_true rfl) rfl rfl ?_
  refine J.iload_n d_R_room_5 rfl rfl ?_
  refine J.s1i (con_R_isDisk1 hd _) k_R_room_R_isDisk d_R_room_6 rfl ?_
  refine J.if_eqN d_R_room_9 (tgt := 29) (by decide) (by omega) (fun h => ?_) (fun h => ?_)
  · exact absurd h (by decide)
  refine J.aload_n d_R_room_12 rfl rfl ?_
  refine J.getfield d_R_room_13 fl_R_13 rfl rfl ?_
  refine J.iload_n d_R_room_16 rfl rfl ?_
  refine J.baloadN d_R_room_17 rfl (by omega) (by omega) ?_
  rw [ha]
  refine J.if_eqN d_R_room_18 (tgt := 29) (by decide) (by omega) (fun h3 => ?_) (fun h3 => ?_)
  · exact absurd h3 (by decide)
  refine J.aload_n d_R_room_21 rfl rfl ?_
  refine J.iload_n d_R_room_22 rfl rfl ?_
  refine J.v1i hf k_R_room_R_free d_R_room_23 rfl rfl rfl ?_
  refine J.goto d_R_room_26 (tgt := 30) (by decide) ?_
  exact J.ireturn d_R_room_30 rfl (by decide) (by decide)
theorem con_R_room0 {x : Int32} (hx : x < 0 ∨ nI 8 ≤ x ∨ ∃ d, d < 8 ∧ x = nI d ∧ al d = 0) : Con l i_R_room [.ref 15, .int x] (RM P K Mo co dr sz al us by_ ln pl os ou rd sp rw Y) (.inl (some (.int (pI 0)), (RM P K Mo 0 dr sz al us by_ ln pl os ou rd sp rw Y))) := by
  have out : (x < 0 ∨ nI 8 ≤ x) → Con l i_R_room [.ref 15, .int x] (RM P K Mo co dr sz al us by_ ln pl os ou rd sp rw Y) (.inl (some (.int (pI 0)), (RM P K Mo 0 dr sz al us by_ ln pl os ou rd sp rw Y))) := by
    intro hx
    refine Con.of ?_
    refine J.aload_n d_R_room_0 rfl rfl ?_
    refine J.iconst d_R_room_1 (v := nI 0) (by decide) ?_
    refine J.putfield d_R_room_2 (fs_R_59 _) rfl (Nat.le_of_ble_eq_true rfl) rfl rfl ?_
    refine J.iload_n d_R_room_5 rfl rfl ?_
    refine J.s1i (con_R_isDisk0 hx _) k_R_room_R_isDisk d_R_room_6 rfl ?_
    refine J.if_eqN d_R_room_9 (tgt := 29) (by decide) (by omega) (fun h => ?_) (fun h => ?_)
    · refine J.iconst d_R_room_29 (v := pI 0) (by decide) ?_
      exact J.ireturn d_R_room_30 rfl (by decide) (by decide)
    · exact absurd rfl h
  rcases hx with hx | hx | ⟨d, hd, rfl, ha⟩
  · exact out (Or.inl hx)
  · exact out (Or.inr hx)
  · refine Con.of ?_
    refine J.aload_n d_R_room_0 rfl rfl ?_
    refine J.iconst d_R_room_1 (v := nI 0) (by decide) ?_
    refine J.putfield d_R_room_2 (fs_R_59 _) rfl (Nat.le_of_ble_eq_true rfl) rfl rfl ?_
    refine J.iload_n d_R_room_5 rfl rfl ?_
    refine J.s1i (con_R_isDisk1 hd _) k_R_room_R_isDisk d_R_room_6 rfl ?_
    refine J.if_eqN d_R_room_9 (tgt := 29) (by decide) (by omega) (fun h => ?_) (fun h => ?_)
    · exact absurd h (by decide)
    refine J.aload_n d_R_room_12 rfl rfl ?_
    refine J.getfield d_R_room_13 fl_R_13 rfl rfl ?_
    refine J.iload_n d_R_room_16 rfl rfl ?_
    refine J.baloadN d_R_room_17 rfl (by omega) (by omega) ?_
    rw [ha]
    refine J.if_eqN d_R_room_18 (tgt := 29) (by decide) (by omega) (fun h3 => ?_) (fun h3 => ?_)
    · refine J.iconst d_R_room_29 (v := pI 0) (by decide) ?_
      exact J.ireturn d_R_room_30 rfl (by decide) (by decide)
    · exact absurd rfl h3
end REFPUB
