/-! put, both sides -/
/-- byte k of a long -/
def cb (c : Int64) (k : Nat) : Nat := c.toBitVec.toNat / 2 ^ (8 * k) % 256
theorem cb_lt (c : Int64) (k : Nat) : cb c k < 256 := Nat.mod_lt _ (by decide)
theorem sh8_tab : ∀ k, k < 8 → (((nI (8 * k)).toInt64.toUInt64 &&& Int64.toUInt64 63).toNat = 8 * k) := by decide +kernel
theorem sh8 (c : Int64) {k : Nat} (hk : k < 8) : (c.toUInt64 >>> ((nI (8 * k)).toInt64.toUInt64 &&& Int64.toUInt64 63)).toNat = c.toBitVec.toNat / 2 ^ (8 * k) := by
  rw [UInt64.toNat_shiftRight, sh8_tab k hk, Nat.mod_eq_of_lt (by omega : 8 * k < 64), Nat.shiftRight_eq_div_pow]
  rfl
theorem cb_V (c : Int64) {k : Nat} (hk : k < 8) : (c.toUInt64 >>> ((nI (8 * k)).toInt64.toUInt64 &&& Int64.toUInt64 63)).toInt64.toInt32 &&& nI 255 = nI (cb c k) := by
  rw [and255]
  congr 1
  unfold cb
  rw [← sh8 c hk]
  generalize c.toUInt64 >>> ((nI (8 * k)).toInt64.toUInt64 &&& Int64.toUInt64 63) = x
  have e : x.toInt64.toInt32.toBitVec.toNat = x.toNat % 2 ^ 32 := by
    rw [Int64.toBitVec_toInt32, BitVec.signExtend_eq_setWidth_of_le _ (by decide), BitVec.toNat_setWidth]; rfl
  rw [e]
  omega
theorem cb_R (c : Int64) {k : Nat} (hk : k < 8) : ((c.toUInt64 >>> ((nI (8 * k)).toInt64.toUInt64 &&& Int64.toUInt64 63)).toInt64 &&& 255).toInt32 = nI (cb c k) := by
  unfold cb
  rw [← sh8 c hk]
  generalize c.toUInt64 >>> ((nI (8 * k)).toInt64.toUInt64 &&& Int64.toUInt64 63) = x
  apply Int32.toBitVec_inj.mp
  apply BitVec.eq_of_toNat_eq
  rw [Int64.toBitVec_toInt32, BitVec.signExtend_eq_setWidth_of_le _ (by decide), BitVec.toNat_setWidth, Int64.toBitVec_and, BitVec.toNat_and]
  have e1 : (255 : Int64).toBitVec.toNat = 2 ^ 8 - 1 := by decide
  have e2 : x.toInt64.toBitVec.toNat = x.toNat := rfl
  rw [e1, e2, Nat.and_two_pow_sub_one_eq_mod]
  have e3 : (nI (x.toNat % 256)).toBitVec.toNat = x.toNat % 256 % 2 ^ 32 := by
    show (BitVec.ofNat 32 (x.toNat % 256)).toNat = _
    rw [BitVec.toNat_ofNat]
  rw [e3]
theorem J.ldc2 {l : Launch} {I : MI} {pc : Nat} {lv : List (Nat × Value)} {st : List Value} {M : List va_E} {k n : Nat} {out : Out} {index : Nat} {v : Int64} (hd : decode I.cc pc = .ok (.ldc2_w index, 3)) (hw : Cond.constantLong I.own index v ∈ lw_tbl) (kk : J l I (pc + 3) lv (.long v :: st) M k n out) : J l I pc lv st M k n out :=
  fun D cA ad p e s m args below meth c A locs H ls h => lv_ldc2 h.hx h.hb h.ho (h.hw.at hw rfl args) hd (kk D cA ad p e s m args below meth c A locs H ls h)
theorem c65 : Cond.constantLong "StripeVaultModel" 65 255 ∈ lw_tbl := by decide +kernel
/-- the draft with the first m of n bytes behind its dl -/
def pt (c : Int64) (n dl : Nat) (dr : Nat → Nat) (m : Nat) : Nat → Nat := fun q => if dl ≤ q ∧ q < dl + m then cb c (n - 1 - (q - dl)) else dr q
theorem pt_0 (c : Int64) (n dl : Nat) (dr : Nat → Nat) : pt c n dl dr 0 = dr := by
  funext q; unfold pt; rw [if_neg (by omega)]
theorem pt_up {c : Int64} {n dl : Nat} {dr : Nat → Nat} {m : Nat} : up (pt c n dl dr m) (dl + m) (cb c (n - 1 - m)) = pt c n dl dr (m + 1) := by
  funext q
  by_cases hq : q = dl + m
  · subst hq
    rw [up_self]; unfold pt
    rw [if_pos (by omega), Nat.add_sub_cancel_left]
  · rw [up_ne _ _ hq]; unfold pt
    have : (dl ≤ q ∧ q < dl + (m + 1)) ↔ (dl ≤ q ∧ q < dl + m) := by omega
    simp only [this]
theorem pt_lt {c : Int64} {n dl : Nat} {dr : Nat → Nat} {m : Nat} (h : ∀ i, dr i < 256) (i : Nat) : pt c n dl dr m i < 256 := by
  unfold pt; split
  · exact cb_lt _ _
  · exact h i
/-- nothing is put -/
def noQ (dl : Nat) (x : Int32) : Prop := x < nI 1 ∨ nI 8 < x ∨ ∃ n, 1 ≤ n ∧ n ≤ 8 ∧ x = nI n ∧ 32 < dl + n
section PUTV
variable {l : Launch} {K Mo dl ol : Nat} {dr ou da eq al us by_ ln pl : Nat → Nat} {X : List va_E}
theorem lp_V_put {n : Nat} {c : Int64} (hn8 : n ≤ 8) (hdl : dl + n ≤ 32) : ∀ (j i : Nat), i + j = n →
    J l i_V_put 27 [(0, .ref 0), (1, .int (nI n)), (2, .long c), (4, .int (nI i))] [] (CA K Mo (pt c n dl dr i) dl ou ol da eq al us by_ ln pl X) 0 0 (.inl (some (.int (nI 1)), (CA K Mo (pt c n dl dr n) (dl + n) ou ol da eq al us by_ ln pl X)))
  | 0, i, hi => by
    have hi' : i = n := by omega
    subst hi'
    refine J.iload d_V_put_27 rfl ?_
    refine J.iload_n d_V_put_29 rfl rfl ?_
    refine J.icmp_geN d_V_put_30 (tgt := 67) (by decide) (by omega) (by omega) (fun h => ?_) (fun h => ?_)
    · refine J.aload_n d_V_put_67 rfl rfl ?_
      refine J.dup d_V_put_68 rfl ?_
      refine J.getfield d_V_put_69 fl_V_40 rfl rfl ?_
      refine J.iload_n d_V_put_72 rfl rfl ?_
      refine J.iaddN d_V_put_73 ?_
      refine J.putfield d_V_put_74 (fs_V_40 _) rfl (Nat.le_of_ble_eq_true rfl) rfl rfl ?_
      refine J.iconst d_V_put_77 (v := nI 1) (by decide) ?_
      first | exact J.zreturn d_V_put_78 rfl rfl (by decide) (by decide) | exact J.zreturnN d_V_put_78 rfl (by omega) (by decide) (by decide)
    · omega
  | j + 1, i, hi => by
    have ih := lp_V_put (c := c) hn8 hdl j (i + 1) (by omega)
    rw [← pt_up] at ih
    refine J.iload d_V_put_27 rfl ?_
    refine J.iload_n d_V_put_29 rfl rfl ?_
    refine J.icmp_geN d_V_put_30 (tgt := 67) (by decide) (by omega) (by omega) (fun h => ?_) (fun h => ?_)
    · omega
    refine J.aload_n d_V_put_33 rfl rfl ?_
    refine J.getfield d_V_put_34 fl_V_36 rfl rfl ?_
    refine J.aload_n d_V_put_37 rfl rfl ?_
    refine J.getfield d_V_put_38 fl_V_40 rfl rfl ?_
    refine J.iload d_V_put_41 rfl ?_
    refine J.iaddN d_V_put_43 ?_
    refine J.lload_n d_V_put_44 rfl rfl ?_
    refine J.bipush d_V_put_45 (v := nI 8) (by decide) ?_
    refine J.iload_n d_V_put_47 rfl rfl ?_
    refine J.iconst d_V_put_48 (v := nI 1) (by decide) ?_
    refine J.isubN d_V_put_49 (by omega) ?_
    refine J.iload d_V_put_50 rfl ?_
    refine J.isubN d_V_put_52 (by omega) ?_
    refine J.imulN d_V_put_53 ?_
    refine J.lushr d_V_put_54 ?_
    refine J.l2i d_V_put_55 ?_
    refine J.sipush d_V_put_56 (v := nI 255) (by decide) ?_
    refine J.iand d_V_put_59 ?_
    rw [cb_V c (by omega)]
    refine J.iastoreN d_V_put_60 rfl (by omega) (by omega) ?_
    refine J.iincN d_V_put_61 rfl rfl (by decide) rfl ?_
    refine J.goto d_V_put_64 (tgt := 27) (by decide) ?_
    exact ih
theorem con_V_put1 {n : Nat} {c : Int64} (hn : 1 ≤ n) (hn8 : n ≤ 8) (hdl : dl + n ≤ 32) : Con l i_V_put [.ref 0, .int (nI n), .long c] (CA K Mo dr dl ou ol da eq al us by_ ln pl X) (.inl (some (.int (nI 1)), (CA K Mo (pt c n dl dr n) (dl + n) ou ol da eq al us by_ ln pl X))) := by
  have h1 := lp_V_put (l := l) (K := K) (Mo := Mo) (ol := ol) (dr := dr) (ou := ou) (da := da) (eq := eq) (al := al) (us := us) (by_ := by_) (ln := ln) (pl := pl) (X := X) (c := c) hn8 hdl n 0 (by omega)
  rw [pt_0] at h1
  refine Con.of ?_
  refine J.iload_n d_V_put_0 rfl rfl ?_
  refine J.iconst d_V_put_1 (v := nI 1) (by decide) ?_
  refine J.icmp_ltN d_V_put_2 (tgt := 22) (by decide) (by omega) (by omega) (fun h => ?_) (fun h => ?_)
  · omega
  refine J.iload_n d_V_put_5 rfl rfl ?_
  refine J.bipush d_V_put_6 (v := nI 8) (by decide) ?_
  refine J.icmp_gtN d_V_put_8 (tgt := 22) (by decide) (by omega) (by omega) (fun h => ?_) (fun h => ?_)
  · omega
  refine J.aload_n d_V_put_11 rfl rfl ?_
  refine J.getfield d_V_put_12 fl_V_40 rfl rfl ?_
  refine J.iload_n d_V_put_15 rfl rfl ?_
  refine J.iaddN d_V_put_16 ?_
  refine J.bipush d_V_put_17 (v := nI 32) (by decide) ?_
  refine J.icmp_leN d_V_put_19 (tgt := 24) (by decide) (by omega) (by omega) (fun h => ?_) (fun h => ?_)
  · refine J.iconst d_V_put_24 (v := nI 0) (by decide) ?_
    refine J.istore d_V_put_25 (by decide) rfl ?_
    exact h1
  · omega
theorem con_V_put0 {x : Int32} {c : Int64} (hd : dl ≤ 32) (hx : noQ dl x) : Con l i_V_put [.ref 0, .int x, .long c] (CA K Mo dr dl ou ol da eq al us by_ ln pl X) (.inl (some (.int (nI 0)), (CA K Mo dr dl ou ol da eq al us by_ ln pl X))) := by
  have fin : ∀ {lv}, J l i_V_put 22 lv [] (CA K Mo dr dl ou ol da eq al us by_ ln pl X) 0 0 (.inl (some (.int (nI 0)), (CA K Mo dr dl ou ol da eq al us by_ ln pl X))) := by
    intro lv
    refine J.iconst d_V_put_22 (v := nI 0) (by decide) ?_
    first | exact J.zreturn d_V_put_23 rfl rfl (by decide) (by decide) | exact J.zreturnN d_V_put_23 rfl (by omega) (by decide) (by decide)
  refine Con.of ?_
  refine J.iload_n d_V_put_0 rfl rfl ?_
  refine J.iconst d_V_put_1 (v := nI 1) (by decide) ?_
  refine J.icmp_lt d_V_put_2 (tgt := 22) (by decide) (fun _ => fin) (fun h1 => ?_)
  refine J.iload_n d_V_put_5 rfl rfl ?_
  refine J.bipush d_V_put_6 (v := nI 8) (by decide) ?_
  refine J.icmp_gt d_V_put_8 (tgt := 22) (by decide) (fun _ => fin) (fun h2 => ?_)
  rcases hx with z | z | ⟨n, n1, n8, rfl, hq⟩
  · exact absurd z h1
  · exact absurd z h2
  refine J.aload_n d_V_put_11 rfl rfl ?_
  refine J.getfield d_V_put_12 fl_V_40 rfl rfl ?_
  refine J.iload_n d_V_put_15 rfl rfl ?_
  refine J.iaddN d_V_put_16 ?_
  refine J.bipush d_V_put_17 (v := nI 32) (by decide) ?_
  refine J.icmp_leN d_V_put_19 (tgt := 24) (by decide) (by omega) (by omega) (fun h => ?_) (fun h => ?_)
  · omega
  · exact fin
end PUTV
section PUTR
variable {l : Launch} {P : Nat → va_E} {K Mo co sz os : Nat} {dr al us by_ ln pl ou rd sp rw : Nat → Nat} {Y : List va_E}
theorem nI_dec (m : Nat) : nI m + Int32.ofInt (-1) = pI m := by
  unfold pI
  rw [show Int32.ofInt (-1) = -1 from by decide, ← Int32.sub_eq_add_neg]
theorem lp_R_put {n : Nat} {c : Int64} (hn8 : n ≤ 8) (hsz : sz + n ≤ 32) : ∀ (m i : Nat), i + m = n →
    J l i_R_put 34 [(0, .ref 15), (1, .int (nI n)), (2, .long c), (4, .int (pI m))] [] (RM P K Mo co (pt c n sz dr i) (sz + i) al us by_ ln pl os ou rd sp rw Y) 0 0 (.inl (some (.int (nI 1)), (RM P K Mo co (pt c n sz dr n) (sz + n) al us by_ ln pl os ou rd sp rw Y)))
  | 0, i, hi => by
    have hi' : i = n := by omega
    subst hi'
    refine J.iload d_R_put_34 rfl ?_
    refine J.if_ltP d_R_put_36 (tgt := 76) (by decide) (by decide) (fun _ => ?_) (fun q => absurd q (by decide))
    refine J.iconst d_R_put_76 (v := nI 1) (by decide) ?_
    first | exact J.zreturn d_R_put_77 rfl rfl (by decide) (by decide) | exact J.zreturnN d_R_put_77 rfl (by omega) (by decide) (by decide)
  | m + 1, i, hi => by
    have ih := lp_R_put (c := c) hn8 hsz m (i + 1) (by omega)
    rw [← pt_up, show n - 1 - i = m by omega] at ih
    rw [pI_succ]
    refine J.iload d_R_put_34 rfl ?_
    refine J.if_ltN d_R_put_36 (tgt := 76) (by decide) (by omega) (fun _ => ?_)
    refine J.aload_n d_R_put_39 rfl rfl ?_
    refine J.getfield d_R_put_40 fl_R_7 rfl rfl ?_
    refine J.aload_n d_R_put_43 rfl rfl ?_
    refine J.getfield d_R_put_44 fl_R_62 rfl rfl ?_
    refine J.lload_n d_R_put_47 rfl rfl ?_
    refine J.bipush d_R_put_48 (v := nI 8) (by decide) ?_
    refine J.iload d_R_put_50 rfl ?_
    refine J.imulN d_R_put_52 ?_
    refine J.lushr d_R_put_53 ?_
    refine J.ldc2 d_R_put_54 c65 ?_
    refine J.land d_R_put_57 ?_
    refine J.l2i d_R_put_58 ?_
    rw [cb_R c (by omega)]
    refine J.iastoreN d_R_put_59 rfl (by omega) (by omega) ?_
    refine J.aload_n d_R_put_60 rfl rfl ?_
    refine J.dup d_R_put_61 rfl ?_
    refine J.getfield d_R_put_62 fl_R_62 rfl rfl ?_
    refine J.iconst d_R_put_65 (v := nI 1) (by decide) ?_
    refine J.iaddN d_R_put_66 ?_
    refine J.putfield d_R_put_67 (fs_R_62 _) rfl (Nat.le_of_ble_eq_true rfl) rfl rfl ?_
    refine J.iinc d_R_put_70 rfl (nI_dec m) (by decide) rfl ?_
    refine J.goto d_R_put_73 (tgt := 34) (by decide) ?_
    exact ih
theorem con_R_put1 {n : Nat} {c : Int64} (hn : 1 ≤ n) (hn8 : n ≤ 8) (hsz : sz + n ≤ 32) : Con l i_R_put [.ref 15, .int (nI n), .long c] (RM P K Mo co dr sz al us by_ ln pl os ou rd sp rw Y) (.inl (some (.int (nI 1)), (RM P K Mo 0 (pt c n sz dr n) (sz + n) al us by_ ln pl os ou rd sp rw Y))) := by
  have h1 := lp_R_put (l := l) (P := P) (K := K) (Mo := Mo) (co := 0) (os := os) (dr := dr) (al := al) (us := us) (by_ := by_) (ln := ln) (pl := pl) (ou := ou) (rd := rd) (sp := sp) (rw := rw) (Y := Y) (c := c) hn8 hsz n 0 (by omega)
  rw [pt_0] at h1
  obtain ⟨m, rfl⟩ : ∃ m, n = m + 1 := ⟨n - 1, by omega⟩
  rw [pI_succ] at h1
  refine Con.of ?_
  refine J.aload_n d_R_put_0 rfl rfl ?_
  refine J.iconst d_R_put_1 (v := nI 0) (by decide) ?_
  refine J.putfield d_R_put_2 (fs_R_59 _) rfl (Nat.le_of_ble_eq_true rfl) rfl rfl ?_
  refine J.iload_n d_R_put_5 rfl rfl ?_
  refine J.iconst d_R_put_6 (v := nI 1) (by decide) ?_
  refine J.icmp_ltN d_R_put_7 (tgt := 27) (by decide) (by omega) (by omega) (fun h => ?_) (fun h => ?_)
  · omega
  refine J.iload_n d_R_put_10 rfl rfl ?_
  refine J.bipush d_R_put_11 (v := nI 8) (by decide) ?_
  refine J.icmp_gtN d_R_put_13 (tgt := 27) (by decide) (by omega) (by omega) (fun h => ?_) (fun h => ?_)
  · omega
  refine J.aload_n d_R_put_16 rfl rfl ?_
  refine J.getfield d_R_put_17 fl_R_62 rfl rfl ?_
  refine J.iload_n d_R_put_20 rfl rfl ?_
  refine J.iaddN d_R_put_21 ?_
  refine J.bipush d_R_put_22 (v := nI 32) (by decide) ?_
  refine J.icmp_leN d_R_put_24 (tgt := 29) (by decide) (by omega) (by omega) (fun h => ?_) (fun h => ?_)
  · refine J.iload_n d_R_put_29 rfl rfl ?_
    refine J.iconst d_R_put_30 (v := nI 1) (by decide) ?_
    refine J.isubN d_R_put_31 (by omega) ?_
    refine J.istore d_R_put_32 (by decide) rfl ?_
    exact h1
  · omega
theorem con_R_put0 {x : Int32} {c : Int64} (hd : sz ≤ 32) (hx : noQ sz x) : Con l i_R_put [.ref 15, .int x, .long c] (RM P K Mo co dr sz al us by_ ln pl os ou rd sp rw Y) (.inl (some (.int (nI 0)), (RM P K Mo 0 dr sz al us by_ ln pl os ou rd sp rw Y))) := by
  have fin : ∀ {lv}, J l i_R_put 27 lv [] (RM P K Mo 0 dr sz al us by_ ln pl os ou rd sp rw Y) 0 0 (.inl (some (.int (nI 0)), (RM P K Mo 0 dr sz al us by_ ln pl os ou rd sp rw Y))) := by
    intro lv
    refine J.iconst d_R_put_27 (v := nI 0) (by decide) ?_
    first | exact J.zreturn d_R_put_28 rfl rfl (by decide) (by decide) | exact J.zreturnN d_R_put_28 rfl (by omega) (by decide) (by decide)
  refine Con.of ?_
  refine J.aload_n d_R_put_0 rfl rfl ?_
  refine J.iconst d_R_put_1 (v := nI 0) (by decide) ?_
  refine J.putfield d_R_put_2 (fs_R_59 _) rfl (Nat.le_of_ble_eq_true rfl) rfl rfl ?_
  refine J.iload_n d_R_put_5 rfl rfl ?_
  refine J.iconst d_R_put_6 (v := nI 1) (by decide) ?_
  refine J.icmp_lt d_R_put_7 (tgt := 27) (by decide) (fun _ => fin) (fun h1 => ?_)
  refine J.iload_n d_R_put_10 rfl rfl ?_
  refine J.bipush d_R_put_11 (v := nI 8) (by decide) ?_
  refine J.icmp_gt d_R_put_13 (tgt := 27) (by decide) (fun _ => fin) (fun h2 => ?_)
  rcases hx with z | z | ⟨n, n1, n8, rfl, hq⟩
  · exact absurd z h1
  · exact absurd z h2
  refine J.aload_n d_R_put_16 rfl rfl ?_
  refine J.getfield d_R_put_17 fl_R_62 rfl rfl ?_
  refine J.iload_n d_R_put_20 rfl rfl ?_
  refine J.iaddN d_R_put_21 ?_
  refine J.bipush d_R_put_22 (v := nI 32) (by decide) ?_
  refine J.icmp_leN d_R_put_24 (tgt := 29) (by decide) (by omega) (by omega) (fun h => ?_) (fun h => ?_)
  · omega
  · exact fin
end PUTR
