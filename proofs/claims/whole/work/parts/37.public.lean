/-! The class's public methods, one case a row -/
section PUB
variable {l : Launch} {K Mo dl ol : Nat} {dr ou da eq al us by_ ln pl : Nat → Nat} {X : List va_E}
theorem con_V_scrap : Con l i_V_scrap [.ref 0] (CA K Mo dr dl ou ol da eq al us by_ ln pl X) (.inl (none, (CA K Mo dr 0 ou ol da eq al us by_ ln pl X))) := by
  refine Con.of ?_
  refine J.aload_n d_V_scrap_0 rfl rfl ?_
  refine J.iconst d_V_scrap_1 (v := nI 0) (by decide) ?_
  refine J.putfield d_V_scrap_2 (fs_V_40 _) rfl (Nat.le_of_ble_eq_true rfl) rfl rfl ?_
  exact J.vreturn d_V_scrap_5 rfl (by decide) (by decide)
theorem con_V_drop1 {o : Nat} (hx : okR (0, us, pl)) (hK : 0 < K) (hK4 : K ≤ 4) (hM : Mo ≤ 3) (ho : o < 6) (hl : 0 < ln o) (hln : ln o ≤ 32) : Con l i_V_drop [.ref 0, .int (nI o)] (CA K Mo dr dl ou ol da eq al us by_ ln pl X) (.inl (some (.int (nI (rlS o (K + Mo) (0, us, pl) (ns K (ln o))).1)), (CA K Mo dr dl ou ol da eq al ((rlS o (K + Mo) (0, us, pl) (ns K (ln o))).2.1) by_ (up ln o 0) ((rlS o (K + Mo) (0, us, pl) (ns K (ln o))).2.2) X))) := by
  refine Con.of ?_
  refine J.aload_n d_V_drop_0 rfl rfl ?_
  refine J.iload_n d_V_drop_1 rfl rfl ?_
  refine J.v1v (con_V_reqO1 ho hl hln) k_V_drop_V_requireObject d_V_drop_2 rfl rfl rfl ?_
  refine J.aload_n d_V_drop_5 rfl rfl ?_
  refine J.iload_n d_V_drop_6 rfl rfl ?_
  refine J.v1i (con_V_releaseObject hx hK hK4 hM ho hln) k_V_drop_V_releaseObject d_V_drop_7 rfl rfl rfl ?_
  exact J.ireturn d_V_drop_10 rfl (by decide) (by decide)
theorem con_V_drop0 (hl : l.stackTraces = false) {x : Int32} (hx : noO ln x) : Con l i_V_drop [.ref 0, .int x] (CA K Mo dr dl ou ol da eq al us by_ ln pl X) (.inr ("java/util/NoSuchElementException", (CA K Mo dr dl ou ol da eq al us by_ ln pl X))) := by
  refine Con.of ?_
  refine J.aload_n d_V_drop_0 rfl rfl ?_
  refine J.iload_n d_V_drop_1 rfl rfl ?_
  exact J.t1 (con_V_reqO0 hl hx) k_V_drop_V_requireObject d_V_drop_2 rfl rfl
theorem con_V_at1 {i : Nat} (hi : i < ol) (ho : ol ≤ 32) : Con l i_V_at [.ref 0, .int (nI i)] (CA K Mo dr dl ou ol da eq al us by_ ln pl X) (.inl (some (.int (nI (ou i))), (CA K Mo dr dl ou ol da eq al us by_ ln pl X))) := by
  refine Con.of ?_
  refine J.iload_n d_V_at_0 rfl rfl ?_
  refine J.if_ltN d_V_at_1 (tgt := 12) (by decide) (by omega) (fun _ => ?_)
  refine J.iload_n d_V_at_4 rfl rfl ?_
  refine J.aload_n d_V_at_5 rfl rfl ?_
  refine J.getfield d_V_at_6 fl_V_47 rfl rfl ?_
  refine J.icmp_ltN d_V_at_9 (tgt := 20) (by decide) (by omega) (by omega) (fun h => ?_) (fun h => ?_)
  · refine J.aload_n d_V_at_20 rfl rfl ?_
    refine J.getfield d_V_at_21 fl_V_44 rfl rfl ?_
    refine J.iload_n d_V_at_24 rfl rfl ?_
    refine J.ialoadN d_V_at_25 rfl (by omega) (by omega) ?_
    exact J.ireturn d_V_at_26 rfl (by decide) (by decide)
  · omega
theorem con_V_at0 (hl : l.stackTraces = false) {x : Int32} (hx : x < 0 ∨ nI ol ≤ x) : Con l i_V_at [.ref 0, .int x] (CA K Mo dr dl ou ol da eq al us by_ ln pl X) (.inr ("java/lang/IndexOutOfBoundsException", (CA K Mo dr dl ou ol da eq al us by_ ln pl X))) := by
  have thr : ∀ {lv}, J l i_V_at 12 lv [] (CA K Mo dr dl ou ol da eq al us by_ ln pl X) 0 0 (.inr ("java/lang/IndexOutOfBoundsException", (CA K Mo dr dl ou ol da eq al us by_ ln pl X))) := J.throwNew hl tw_IOB d_V_at_12 d_V_at_15 d_V_at_16 d_V_at_19 rfl (by decide) (by decide) ⟨by decide, by decide⟩ ⟨by decide, by decide⟩
  refine Con.of ?_
  refine J.iload_n d_V_at_0 rfl rfl ?_
  refine J.if_lt d_V_at_1 (tgt := 12) (by decide) (fun _ => thr) (fun h => ?_)
  refine J.iload_n d_V_at_4 rfl rfl ?_
  refine J.aload_n d_V_at_5 rfl rfl ?_
  refine J.getfield d_V_at_6 fl_V_47 rfl rfl ?_
  refine J.icmp_lt d_V_at_9 (tgt := 20) (by decide) (fun h2 => absurd h2 (Int32.not_lt.mpr (hx.resolve_left h))) (fun _ => thr)
theorem con_V_fail1 {d : Nat} (hd : d < 8) (ha : al d = 1) (h2 : ∀ i, us i < 2) (hp : ∀ i, pl i ≤ 80) : Con l i_V_fail [.ref 0, .int (nI d)] (CA K Mo dr dl ou ol da eq al us by_ ln pl X) (.inl (some (.int (nI (ud us d))), (CM K Mo dr dl ou ol da eq (up al d 0) (up (frOf us) d 10) (fz (tkOf us) d 10) (byOf by_) ln (lz (plOf (K + Mo) pl) d 336) X))) := by
  have hle := ud_le h2 d
  have hal := con_D_isAlive (l := l) (K := K) (Mo := Mo) (dl := dl) (ol := ol) (dr := dr) (ou := ou) (da := da) (eq := eq) (al := al) (fr := frOf us) (tk := tkOf us) (by_ := byOf by_) (ln := ln) (pl := plOf (K + Mo) pl) (X := X) hd (by omega)
  rw [ha] at hal
  have hfs := con_D_freeSlotsOf (l := l) (K := K) (Mo := Mo) (dl := dl) (ol := ol) (dr := dr) (ou := ou) (da := da) (eq := eq) (al := al) (fr := frOf us) (tk := tkOf us) (by_ := byOf by_) (ln := ln) (pl := plOf (K + Mo) pl) (X := X) hd
  rw [fr_at us hd] at hfs
  refine Con.of ?_
  refine J.aload_n d_V_fail_0 rfl rfl ?_
  refine J.iload_n d_V_fail_1 rfl rfl ?_
  refine J.v1v (con_V_reqD1 hd) k_V_fail_V_requireDisk d_V_fail_2 rfl rfl rfl ?_
  refine J.aload_n d_V_fail_5 rfl rfl ?_
  refine J.getfield d_V_fail_6 fl_V_25 rfl rfl ?_
  refine J.iload_n d_V_fail_9 rfl rfl ?_
  refine J.v1i hal k_V_fail_D_isAlive d_V_fail_10 rfl rfl rfl ?_
  refine J.if_neN d_V_fail_13 (tgt := 24) (by decide) (by omega) (fun h => ?_) (fun h => ?_)
  · refine J.bipush d_V_fail_24 (v := nI 10) (by decide) ?_
    refine J.aload_n d_V_fail_26 rfl rfl ?_
    refine J.getfield d_V_fail_27 fl_V_25 rfl rfl ?_
    refine J.iload_n d_V_fail_30 rfl rfl ?_
    refine J.v1i hfs k_V_fail_D_freeSlotsOf d_V_fail_31 rfl rfl rfl ?_
    refine J.isubN d_V_fail_34 (by omega) ?_
    rw [show 10 - (10 - ud us d) = ud us d by omega]
    refine J.istore_n d_V_fail_35 rfl (by decide) rfl ?_
    refine J.aload_n d_V_fail_36 rfl rfl ?_
    refine J.getfield d_V_fail_37 fl_V_25 rfl rfl ?_
    refine J.iload_n d_V_fail_40 rfl rfl ?_
    refine J.v1v (con_D_stop hd) k_V_fail_D_stop d_V_fail_41 rfl rfl rfl ?_
    refine J.aload_n d_V_fail_44 rfl rfl ?_
    refine J.getfield d_V_fail_45 fl_V_32 rfl rfl ?_
    refine J.iload_n d_V_fail_48 rfl rfl ?_
    refine J.v1v (con_G_loseDisk hd (pl_lt (Sh := K + Mo) hp)) k_V_fail_G_loseDisk d_V_fail_49 rfl rfl rfl ?_
    refine J.iload_n d_V_fail_52 rfl rfl ?_
    exact J.ireturn d_V_fail_53 rfl (by decide) (by decide)
  · exact absurd h (by decide)
theorem con_V_fail0 (hl : l.stackTraces = false) {x : Int32} (hx : x < 0 ∨ nI 8 ≤ x) : Con l i_V_fail [.ref 0, .int x] (CA K Mo dr dl ou ol da eq al us by_ ln pl X) (.inr ("java/lang/IllegalArgumentException", (CA K Mo dr dl ou ol da eq al us by_ ln pl X))) := by
  refine Con.of ?_
  refine J.aload_n d_V_fail_0 rfl rfl ?_
  refine J.iload_n d_V_fail_1 rfl rfl ?_
  exact J.t1 (con_V_reqD0 hl hx) k_V_fail_V_requireDisk d_V_fail_2 rfl rfl
theorem con_V_fail2 (hl : l.stackTraces = false) {d : Nat} (hd : d < 8) (ha : al d = 0) : Con l i_V_fail [.ref 0, .int (nI d)] (CA K Mo dr dl ou ol da eq al us by_ ln pl X) (.inr ("java/lang/IllegalStateException", (CA K Mo dr dl ou ol da eq al us by_ ln pl X))) := by
  have hal := con_D_isAlive (l := l) (K := K) (Mo := Mo) (dl := dl) (ol := ol) (dr := dr) (ou := ou) (da := da) (eq := eq) (al := al) (fr := frOf us) (tk := tkOf us) (by_ := byOf by_) (ln := ln) (pl := plOf (K + Mo) pl) (X := X) hd (by omega)
  rw [ha] at hal
  refine Con.of ?_
  refine J.aload_n d_V_fail_0 rfl rfl ?_
  refine J.iload_n d_V_fail_1 rfl rfl ?_
  refine J.v1v (con_V_reqD1 hd) k_V_fail_V_requireDisk d_V_fail_2 rfl rfl rfl ?_
  refine J.aload_n d_V_fail_5 rfl rfl ?_
  refine J.getfield d_V_fail_6 fl_V_25 rfl rfl ?_
  refine J.iload_n d_V_fail_9 rfl rfl ?_
  refine J.v1i hal k_V_fail_D_isAlive d_V_fail_10 rfl rfl rfl ?_
  refine J.if_neN d_V_fail_13 (tgt := 24) (by decide) (by omega) (fun h => ?_) (fun h => ?_)
  · exact absurd rfl h
  · exact J.throwNew hl tw_ISE d_V_fail_16 d_V_fail_19 d_V_fail_20 d_V_fail_23 rfl (by decide) (by decide) ⟨by decide, by decide⟩ ⟨by decide, by decide⟩
theorem con_V_renew1 {d : Nat} (hd : d < 8) (ha : al d = 0) (h2 : ∀ i, al i < 2) : Con l i_V_renew [.ref 0, .int (nI d)] (CA K Mo dr dl ou ol da eq al us by_ ln pl X) (.inl (some (.int (nI (cs (up al d 1) 8))), (CA K Mo dr dl ou ol da eq (up al d 1) us by_ ln pl X))) := by
  have hal := con_D_isAlive (l := l) (K := K) (Mo := Mo) (dl := dl) (ol := ol) (dr := dr) (ou := ou) (da := da) (eq := eq) (al := al) (fr := frOf us) (tk := tkOf us) (by_ := byOf by_) (ln := ln) (pl := plOf (K + Mo) pl) (X := X) hd (by omega)
  rw [ha] at hal
  refine Con.of ?_
  refine J.aload_n d_V_renew_0 rfl rfl ?_
  refine J.iload_n d_V_renew_1 rfl rfl ?_
  refine J.v1v (con_V_reqD1 hd) k_V_renew_V_requireDisk d_V_renew_2 rfl rfl rfl ?_
  refine J.aload_n d_V_renew_5 rfl rfl ?_
  refine J.getfield d_V_renew_6 fl_V_25 rfl rfl ?_
  refine J.iload_n d_V_renew_9 rfl rfl ?_
  refine J.v1i hal k_V_renew_D_isAlive d_V_renew_10 rfl rfl rfl ?_
  refine J.if_eqN d_V_renew_13 (tgt := 24) (by decide) (by omega) (fun h => ?_) (fun h => ?_)
  · refine J.aload_n d_V_renew_24 rfl rfl ?_
    refine J.getfield d_V_renew_25 fl_V_25 rfl rfl ?_
    refine J.iload_n d_V_renew_28 rfl rfl ?_
    refine J.v1v (con_D_start hd) k_V_renew_D_start d_V_renew_29 rfl rfl rfl ?_
    refine J.aload_n d_V_renew_32 rfl rfl ?_
    refine J.getfield d_V_renew_33 fl_V_25 rfl rfl ?_
    refine J.v0i (con_D_countAlive (up_lt h2 (by decide))) k_V_renew_D_countAlive d_V_renew_36 rfl rfl rfl ?_
    exact J.ireturn d_V_renew_39 rfl (by decide) (by decide)
  · exact absurd rfl h
theorem con_V_renew0 (hl : l.stackTraces = false) {x : Int32} (hx : x < 0 ∨ nI 8 ≤ x) : Con l i_V_renew [.ref 0, .int x] (CA K Mo dr dl ou ol da eq al us by_ ln pl X) (.inr ("java/lang/IllegalArgumentException", (CA K Mo dr dl ou ol da eq al us by_ ln pl X))) := by
  refine Con.of ?_
  refine J.aload_n d_V_renew_0 rfl rfl ?_
  refine J.iload_n d_V_renew_1 rfl rfl ?_
  exact J.t1 (con_V_reqD0 hl hx) k_V_renew_V_requireDisk d_V_renew_2 rfl rfl
theorem con_V_renew2 (hl : l.stackTraces = false) {d : Nat} (hd : d < 8) (ha : al d = 1) : Con l i_V_renew [.ref 0, .int (nI d)] (CA K Mo dr dl ou ol da eq al us by_ ln pl X) (.inr ("java/lang/IllegalStateException", (CA K Mo dr dl ou ol da eq al us by_ ln pl X))) := by
  have hal := con_D_isAlive (l := l) (K := K) (Mo := Mo) (dl := dl) (ol := ol) (dr := dr) (ou := ou) (da := da) (eq := eq) (al := al) (fr := frOf us) (tk := tkOf us) (by_ := byOf by_) (ln := ln) (pl := plOf (K + Mo) pl) (X := X) hd (by omega)
  rw [ha] at hal
  refine Con.of ?_
  refine J.aload_n d_V_renew_0 rfl rfl ?_
  refine J.iload_n d_V_renew_1 rfl rfl ?_
  refine J.v1v (con_V_reqD1 hd) k_V_renew_V_requireDisk d_V_renew_2 rfl rfl rfl ?_
  refine J.aload_n d_V_renew_5 rfl rfl ?_
  refine J.getfield d_V_renew_6 fl_V_25 rfl rfl ?_
  refine J.iload_n d_V_renew_9 rfl rfl ?_
  refine J.v1i hal k_V_renew_D_isAlive d_V_renew_10 rfl rfl rfl ?_
  refine J.if_eqN d_V_renew_13 (tgt := 24) (by decide) (by omega) (fun h => ?_) (fun h => ?_)
  · exact absurd h (by decide)
  · exact J.throwNew hl tw_ISE d_V_renew_16 d_V_renew_19 d_V_renew_20 d_V_renew_23 rfl (by decide) (by decide) ⟨by decide, by decide⟩ ⟨by decide, by decide⟩
theorem and255 (x : Int32) : x &&& nI 255 = nI (x.toBitVec.toNat % 256) := pk_and x 8 (by decide +kernel)
theorem con_V_stored1 {d s i : Nat} (hd : d < 8) (hs : s < 10) (hi : i < 4) (h2 : ∀ i, us i < 2) (hu : us (10 * d + s) = 1) : Con l i_V_stored [.ref 0, .int (nI d), .int (nI s), .int (nI i)] (CA K Mo dr dl ou ol da eq al us by_ ln pl X) (.inl (some (.int (nI (by_ (4 * (10 * d + s) + i)))), (CA K Mo dr dl ou ol da eq al us by_ ln pl X))) := by
  have hb := con_D_byteAt (l := l) (K := K) (Mo := Mo) (dl := dl) (ol := ol) (dr := dr) (ou := ou) (da := da) (eq := eq) (al := al) (fr := frOf us) (tk := tkOf us) (by_ := byOf by_) (ln := ln) (pl := plOf (K + Mo) pl) (X := X) (q := 16 * d + s) (t := i) (by omega) hi
  rw [by_at by_ hs hi] at hb
  refine Con.of ?_
  refine J.aload_n d_V_stored_0 rfl rfl ?_
  refine J.iload_n d_V_stored_1 rfl rfl ?_
  refine J.iload_n d_V_stored_2 rfl rfl ?_
  refine J.iload_n d_V_stored_3 rfl rfl ?_
  refine J.v3v (con_V_reqB1 hd hs hi h2 hu) k_V_stored_V_requireStoredByte d_V_stored_4 rfl rfl rfl ?_
  refine J.aload_n d_V_stored_7 rfl rfl ?_
  refine J.getfield d_V_stored_8 fl_V_25 rfl rfl ?_
  refine J.iload_n d_V_stored_11 rfl rfl ?_
  refine J.iload_n d_V_stored_12 rfl rfl ?_
  refine J.s2i (con_V_placeAt d s _) k_V_stored_V_placeAt d_V_stored_13 rfl ?_
  refine J.iload_n d_V_stored_16 rfl rfl ?_
  refine J.v2i hb k_V_stored_D_byteAt d_V_stored_17 rfl rfl rfl ?_
  exact J.ireturn d_V_stored_20 rfl (by decide) (by decide)
theorem con_V_stored0 (hl : l.stackTraces = false) {d s i : Int32} (hx : noB d s i) : Con l i_V_stored [.ref 0, .int d, .int s, .int i] (CA K Mo dr dl ou ol da eq al us by_ ln pl X) (.inr ("java/lang/IllegalArgumentException", (CA K Mo dr dl ou ol da eq al us by_ ln pl X))) := by
  refine Con.of ?_
  refine J.aload_n d_V_stored_0 rfl rfl ?_
  refine J.iload_n d_V_stored_1 rfl rfl ?_
  refine J.iload_n d_V_stored_2 rfl rfl ?_
  refine J.iload_n d_V_stored_3 rfl rfl ?_
  exact J.t3 (con_V_reqB0 hl hx) k_V_stored_V_requireStoredByte d_V_stored_4 rfl rfl
theorem con_V_stored2 (hl : l.stackTraces = false) {d s i : Nat} (hd : d < 8) (hs : s < 10) (hi : i < 4) (h2 : ∀ i, us i < 2) (hu : us (10 * d + s) = 0) : Con l i_V_stored [.ref 0, .int (nI d), .int (nI s), .int (nI i)] (CA K Mo dr dl ou ol da eq al us by_ ln pl X) (.inr ("java/util/NoSuchElementException", (CA K Mo dr dl ou ol da eq al us by_ ln pl X))) := by
  refine Con.of ?_
  refine J.aload_n d_V_stored_0 rfl rfl ?_
  refine J.iload_n d_V_stored_1 rfl rfl ?_
  refine J.iload_n d_V_stored_2 rfl rfl ?_
  refine J.iload_n d_V_stored_3 rfl rfl ?_
  exact J.t3 (con_V_reqB2 hl hd hs hi h2 hu) k_V_stored_V_requireStoredByte d_V_stored_4 rfl rfl
theorem con_V_harm1 {d s i : Nat} {x : Int32} (hd : d < 8) (hs : s < 10) (hi : i < 4) (h2 : ∀ i, us i < 2) (hu : us (10 * d + s) = 1) : Con l i_V_harm [.ref 0, .int (nI d), .int (nI s), .int (nI i), .int x] (CA K Mo dr dl ou ol da eq al us by_ ln pl X) (.inl (some (.int (nI (by_ (4 * (10 * d + s) + i) ^^^ (x.toBitVec.toNat % 256)))), (CA K Mo dr dl ou ol da eq al us (up by_ (4 * (10 * d + s) + i) (by_ (4 * (10 * d + s) + i) ^^^ (x.toBitVec.toNat % 256))) ln pl X))) := by
  have hb := con_D_byteAt (l := l) (K := K) (Mo := Mo) (dl := dl) (ol := ol) (dr := dr) (ou := ou) (da := da) (eq := eq) (al := al) (fr := frOf us) (tk := tkOf us) (by_ := byOf by_) (ln := ln) (pl := plOf (K + Mo) pl) (X := X) (q := 16 * d + s) (t := i) (by omega) hi
  rw [by_at by_ hs hi] at hb
  have hsb := con_D_setByte (l := l) (K := K) (Mo := Mo) (dl := dl) (ol := ol) (dr := dr) (ou := ou) (da := da) (eq := eq) (al := al) (fr := frOf us) (tk := tkOf us) (by_ := byOf by_) (ln := ln) (pl := plOf (K + Mo) pl) (X := X) (q := 16 * d + s) (t := i) (v := by_ (4 * (10 * d + s) + i) ^^^ (x.toBitVec.toNat % 256)) (by omega) hi
  rw [by_up by_ hs hi] at hsb
  refine Con.of ?_
  refine J.aload_n d_V_harm_0 rfl rfl ?_
  refine J.iload_n d_V_harm_1 rfl rfl ?_
  refine J.iload_n d_V_harm_2 rfl rfl ?_
  refine J.iload_n d_V_harm_3 rfl rfl ?_
  refine J.v3v (con_V_reqB1 hd hs hi h2 hu) k_V_harm_V_requireStoredByte d_V_harm_4 rfl rfl rfl ?_
  refine J.iload_n d_V_harm_7 rfl rfl ?_
  refine J.iload_n d_V_harm_8 rfl rfl ?_
  refine J.s2i (con_V_placeAt d s _) k_V_harm_V_placeAt d_V_harm_9 rfl ?_
  refine J.istore d_V_harm_12 (by decide) rfl ?_
  refine J.aload_n d_V_harm_14 rfl rfl ?_
  refine J.getfield d_V_harm_15 fl_V_25 rfl rfl ?_
  refine J.iload d_V_harm_18 rfl ?_
  refine J.iload_n d_V_harm_20 rfl rfl ?_
  refine J.v2i hb k_V_harm_D_byteAt d_V_harm_21 rfl rfl rfl ?_
  refine J.iload d_V_harm_24 rfl ?_
  refine J.sipush d_V_harm_26 (v := nI 255) (by decide) ?_
  refine J.iand d_V_harm_29 ?_
  rw [and255]
  refine J.ixorN d_V_harm_30 ?_
  refine J.istore d_V_harm_31 (by decide) rfl ?_
  refine J.aload_n d_V_harm_33 rfl rfl ?_
  refine J.getfield d_V_harm_34 fl_V_25 rfl rfl ?_
  refine J.iload d_V_harm_37 rfl ?_
  refine J.iload_n d_V_harm_39 rfl rfl ?_
  refine J.iload d_V_harm_40 rfl ?_
  refine J.v3v hsb k_V_harm_D_setByte d_V_harm_42 rfl rfl rfl ?_
  refine J.iload d_V_harm_45 rfl ?_
  exact J.ireturn d_V_harm_47 rfl (by decide) (by decide)
theorem con_V_harm0 (hl : l.stackTraces = false) {d s i x : Int32} (hx : noB d s i) : Con l i_V_harm [.ref 0, .int d, .int s, .int i, .int x] (CA K Mo dr dl ou ol da eq al us by_ ln pl X) (.inr ("java/lang/IllegalArgumentException", (CA K Mo dr dl ou ol da eq al us by_ ln pl X))) := by
  refine Con.of ?_
  refine J.aload_n d_V_harm_0 rfl rfl ?_
  refine J.iload_n d_V_harm_1 rfl rfl ?_
  refine J.iload_n d_V_harm_2 rfl rfl ?_
  refine J.iload_n d_V_harm_3 rfl rfl ?_
  exact J.t3 (con_V_reqB0 hl hx) k_V_harm_V_requireStoredByte d_V_harm_4 rfl rfl
theorem con_V_harm2 (hl : l.stackTraces = false) {d s i : Nat} {x : Int32} (hd : d < 8) (hs : s < 10) (hi : i < 4) (h2 : ∀ i, us i < 2) (hu : us (10 * d + s) = 0) : Con l i_V_harm [.ref 0, .int (nI d), .int (nI s), .int (nI i), .int x] (CA K Mo dr dl ou ol da eq al us by_ ln pl X) (.inr ("java/util/NoSuchElementException", (CA K Mo dr dl ou ol da eq al us by_ ln pl X))) := by
  refine Con.of ?_
  refine J.aload_n d_V_harm_0 rfl rfl ?_
  refine J.iload_n d_V_harm_1 rfl rfl ?_
  refine J.iload_n d_V_harm_2 rfl rfl ?_
  refine J.iload_n d_V_harm_3 rfl rfl ?_
  exact J.t3 (con_V_reqB2 hl hd hs hi h2 hu) k_V_harm_V_requireStoredByte d_V_harm_4 rfl rfl
theorem con_V_where1 {o s h : Nat} (hK : 0 < K) (hK4 : K ≤ 4) (hS : K + Mo ≤ 7) (ho : o < 6) (hl : 0 < ln o) (hln : ln o ≤ 32) (hs : s < ns K (ln o)) (hh : h < K + Mo) : Con l i_V_where [.ref 0, .int (nI o), .int (nI s), .int (nI h)] (CA K Mo dr dl ou ol da eq al us by_ ln pl X) (.inl (some (.int (pI (tr (pl (56 * o + 7 * s + h))))), (CA K Mo dr dl ou ol da eq al us by_ ln pl X))) := by
  have hn8 := ns_le hK hln
  have hs8 : s < 8 := by omega
  have hix := ix56 hS hs8 hh
  have hc := con_G_placeOf (l := l) (K := K) (Mo := Mo) (dl := dl) (ol := ol) (dr := dr) (ou := ou) (da := da) (eq := eq) (al := al) (fr := frOf us) (tk := tkOf us) (by_ := byOf by_) (ln := ln) (pl := plOf (K + Mo) pl) (X := X) (r := o * 56 + s * (K + Mo)) (h := h) (by omega)
  rw [pl_at pl hS hs8 hh] at hc
  refine Con.of ?_
  refine J.aload_n d_V_where_0 rfl rfl ?_
  refine J.iload_n d_V_where_1 rfl rfl ?_
  refine J.v1v (con_V_reqO1 ho hl hln) k_V_where_V_requireObject d_V_where_2 rfl rfl rfl ?_
  refine J.iload_n d_V_where_5 rfl rfl ?_
  refine J.if_ltN d_V_where_6 (tgt := 36) (by decide) (by omega) (fun _ => ?_)
  refine J.iload_n d_V_where_9 rfl rfl ?_
  refine J.aload_n d_V_where_10 rfl rfl ?_
  refine J.getfield d_V_where_11 fl_V_32 rfl rfl ?_
  refine J.iload_n d_V_where_14 rfl rfl ?_
  refine J.v1i (con_G_stripesOf ho hK hK4 (by omega)) k_V_where_G_stripesOf d_V_where_15 rfl rfl rfl ?_
  refine J.icmp_geN d_V_where_18 (tgt := 36) (by decide) (by omega) (by omega) (fun h1 => ?_) (fun h1 => ?_)
  · omega
  refine J.iload_n d_V_where_21 rfl rfl ?_
  refine J.if_ltN d_V_where_22 (tgt := 36) (by decide) (by omega) (fun _ => ?_)
  refine J.iload_n d_V_where_25 rfl rfl ?_
  refine J.aload_n d_V_where_26 rfl rfl ?_
  refine J.getfield d_V_where_27 fl_V_18 rfl rfl ?_
  refine J.getfield d_V_where_30 fl_V_142 rfl rfl ?_
  refine J.icmp_ltN d_V_where_33 (tgt := 44) (by decide) (by omega) (by omega) (fun h2 => ?_) (fun h2 => ?_)
  · refine J.aload_n d_V_where_44 rfl rfl ?_
    refine J.getfield d_V_where_45 fl_V_32 rfl rfl ?_
    refine J.aload_n d_V_where_48 rfl rfl ?_
    refine J.getfield d_V_where_49 fl_V_32 rfl rfl ?_
    refine J.iload_n d_V_where_52 rfl rfl ?_
    refine J.iload_n d_V_where_53 rfl rfl ?_
    refine J.v2i con_G_rowOf k_V_where_G_rowOf d_V_where_54 rfl rfl rfl ?_
    refine J.iload_n d_V_where_57 rfl rfl ?_
    refine J.v2i hc k_V_where_G_placeOf d_V_where_58 rfl rfl rfl ?_
    exact J.ireturn d_V_where_61 rfl (by decide) (by decide)
  · omega
theorem con_V_where0 (hl : l.stackTraces = false) {x y z : Int32} (hx : noO ln x) : Con l i_V_where [.ref 0, .int x, .int y, .int z] (CA K Mo dr dl ou ol da eq al us by_ ln pl X) (.inr ("java/util/NoSuchElementException", (CA K Mo dr dl ou ol da eq al us by_ ln pl X))) := by
  refine Con.of ?_
  refine J.aload_n d_V_where_0 rfl rfl ?_
  refine J.iload_n d_V_where_1 rfl rfl ?_
  exact J.t1 (con_V_reqO0 hl hx) k_V_where_V_requireObject d_V_where_2 rfl rfl
theorem con_V_where2 (hl0 : l.stackTraces = false) {o : Nat} {y z : Int32} (hK : 0 < K) (hK4 : K ≤ 4) (ho : o < 6) (hl : 0 < ln o) (hln : ln o ≤ 32) (hx : y < 0 ∨ nI (ns K (ln o)) ≤ y ∨ z < 0 ∨ nI (K + Mo) ≤ z) : Con l i_V_where [.ref 0, .int (nI o), .int y, .int z] (CA K Mo dr dl ou ol da eq al us by_ ln pl X) (.inr ("java/lang/IndexOutOfBoundsException", (CA K Mo dr dl ou ol da eq al us by_ ln pl X))) := by
  have thr : ∀ {lv} {k n}, k + 1 ≤ 2 → n + 6 ≤ 12 → J l i_V_where 36 lv [] (CA K Mo dr dl ou ol da eq al us by_ ln pl X) k n (.inr ("java/lang/IndexOutOfBoundsException", (CA K Mo dr dl ou ol da eq al us by_ ln pl X))) := fun h1 h2 => J.throwNew hl0 tw_IOB d_V_where_36 d_V_where_39 d_V_where_40 d_V_where_43 rfl (by decide) (by decide) ⟨h1, by decide⟩ ⟨h2, by decide⟩
  refine Con.of ?_
  refine J.aload_n d_V_where_0 rfl rfl ?_
  refine J.iload_n d_V_where_1 rfl rfl ?_
  refine J.v1v (con_V_reqO1 ho hl hln) k_V_where_V_requireObject d_V_where_2 rfl rfl rfl ?_
  refine J.iload_n d_V_where_5 rfl rfl ?_
  refine J.if_lt d_V_where_6 (tgt := 36) (by decide) (fun _ => thr (by decide) (by decide)) (fun h1 => ?_)
  refine J.iload_n d_V_where_9 rfl rfl ?_
  refine J.aload_n d_V_where_10 rfl rfl ?_
  refine J.getfield d_V_where_11 fl_V_32 rfl rfl ?_
  refine J.iload_n d_V_where_14 rfl rfl ?_
  refine J.v1i (con_G_stripesOf ho hK hK4 (by omega)) k_V_where_G_stripesOf d_V_where_15 rfl rfl rfl ?_
  refine J.icmp_ge d_V_where_18 (tgt := 36) (by decide) (fun _ => thr (by decide) (by decide)) (fun h2 => ?_)
  refine J.iload_n d_V_where_21 rfl rfl ?_
  refine J.if_lt d_V_where_22 (tgt := 36) (by decide) (fun _ => thr (by decide) (by decide)) (fun h3 => ?_)
  refine J.iload_n d_V_where_25 rfl rfl ?_
  refine J.aload_n d_V_where_26 rfl rfl ?_
  refine J.getfield d_V_where_27 fl_V_18 rfl rfl ?_
  refine J.getfield d_V_where_30 fl_V_142 rfl rfl ?_
  refine J.icmp_lt d_V_where_33 (tgt := 44) (by decide) (fun h4 => ?_) (fun _ => thr (by decide) (by decide))
  exfalso
  rcases hx with w | w | w | w
  · exact h1 w
  · exact h2 w
  · exact h3 w
  · exact absurd h4 (Int32.not_lt.mpr w)
theorem con_V_length1 {o : Nat} (ho : o < 6) (hl : 0 < ln o) (hln : ln o ≤ 32) : Con l i_V_length [.ref 0, .int (nI o)] (CA K Mo dr dl ou ol da eq al us by_ ln pl X) (.inl (some (.int (nI (ln o))), (CA K Mo dr dl ou ol da eq al us by_ ln pl X))) := by
  have hh := con_G_holds (l := l) (K := K) (Mo := Mo) (dl := dl) (ol := ol) (dr := dr) (ou := ou) (da := da) (eq := eq) (al := al) (fr := frOf us) (tk := tkOf us) (by_ := byOf by_) (ln := ln) (pl := plOf (K + Mo) pl) (X := X) ho (by omega)
  rw [if_pos hl] at hh
  refine Con.of ?_
  refine J.iload_n d_V_length_0 rfl rfl ?_
  refine J.s1i (con_V_isObj1 ho _) k_V_length_V_isObjectNumber d_V_length_1 rfl ?_
  refine J.if_eqN d_V_length_4 (tgt := 29) (by decide) (by omega) (fun h => ?_) (fun h => ?_)
  · exact absurd h (by decide)
  refine J.aload_n d_V_length_7 rfl rfl ?_
  refine J.getfield d_V_length_8 fl_V_32 rfl rfl ?_
  refine J.iload_n d_V_length_11 rfl rfl ?_
  refine J.v1i hh k_V_length_G_holds d_V_length_12 rfl rfl rfl ?_
  refine J.if_eqN d_V_length_15 (tgt := 29) (by decide) (by omega) (fun h => ?_) (fun h => ?_)
  · exact absurd h (by decide)
  refine J.aload_n d_V_length_18 rfl rfl ?_
  refine J.getfield d_V_length_19 fl_V_32 rfl rfl ?_
  refine J.iload_n d_V_length_22 rfl rfl ?_
  refine J.v1i (con_G_lengthOf ho) k_V_length_G_lengthOf d_V_length_23 rfl rfl rfl ?_
  refine J.goto d_V_length_26 (tgt := 30) (by decide) ?_
  exact J.ireturn d_V_length_30 rfl (by decide) (by decide)
theorem con_V_length0 {x : Int32} (hx : noO ln x) : Con l i_V_length [.ref 0, .int x] (CA K Mo dr dl ou ol da eq al us by_ ln pl X) (.inl (some (.int (pI 0)), (CA K Mo dr dl ou ol da eq al us by_ ln pl X))) := by
  have out : (x < 0 ∨ nI 6 ≤ x) → Con l i_V_length [.ref 0, .int x] (CA K Mo dr dl ou ol da eq al us by_ ln pl X) (.inl (some (.int (pI 0)), (CA K Mo dr dl ou ol da eq al us by_ ln pl X))) := by
    intro hx
    refine Con.of ?_
    refine J.iload_n d_V_length_0 rfl rfl ?_
    refine J.s1i (con_V_isObj0 hx _) k_V_length_V_isObjectNumber d_V_length_1 rfl ?_
    refine J.if_eqN d_V_length_4 (tgt := 29) (by decide) (by omega) (fun h => ?_) (fun h => ?_)
    · refine J.iconst d_V_length_29 (v := pI 0) (by decide) ?_
      exact J.ireturn d_V_length_30 rfl (by decide) (by decide)
    · exact absurd rfl h
  rcases hx with hx | hx | ⟨o, ho, rfl, h0⟩
  · exact out (Or.inl hx)
  · exact out (Or.inr hx)
  · have hh := con_G_holds (l := l) (K := K) (Mo := Mo) (dl := dl) (ol := ol) (dr := dr) (ou := ou) (da := da) (eq := eq) (al := al) (fr := frOf us) (tk := tkOf us) (by_ := byOf by_) (ln := ln) (pl := plOf (K + Mo) pl) (X := X) ho (by omega)
    rw [if_neg (by omega)] at hh
    refine Con.of ?_
    refine J.iload_n d_V_length_0 rfl rfl ?_
    refine J.s1i (con_V_isObj1 ho _) k_V_length_V_isObjectNumber d_V_length_1 rfl ?_
    refine J.if_eqN d_V_length_4 (tgt := 29) (by decide) (by omega) (fun h => ?_) (fun h => ?_)
    · exact absurd h (by decide)
    refine J.aload_n d_V_length_7 rfl rfl ?_
    refine J.getfield d_V_length_8 fl_V_32 rfl rfl ?_
    refine J.iload_n d_V_length_11 rfl rfl ?_
    refine J.v1i hh k_V_length_G_holds d_V_length_12 rfl rfl rfl ?_
    refine J.if_eqN d_V_length_15 (tgt := 29) (by decide) (by omega) (fun h => ?_) (fun h => ?_)
    · refine J.iconst d_V_length_29 (v := pI 0) (by decide) ?_
      exact J.ireturn d_V_length_30 rfl (by decide) (by decide)
    · exact absurd rfl h
theorem con_V_room1 {d : Nat} (hd : d < 8) (ha : al d = 1) : Con l i_V_room [.ref 0, .int (nI d)] (CA K Mo dr dl ou ol da eq al us by_ ln pl X) (.inl (some (.int (nI (10 - ud us d))), (CA K Mo dr dl ou ol da eq al us by_ ln pl X))) := by
  have hal := con_D_isAlive (l := l) (K := K) (Mo := Mo) (dl := dl) (ol := ol) (dr := dr) (ou := ou) (da := da) (eq := eq) (al := al) (fr := frOf us) (tk := tkOf us) (by_ := byOf by_) (ln := ln) (pl := plOf (K + Mo) pl) (X := X) hd (by omega)
  rw [ha] at hal
  have hfs := con_D_freeSlotsOf (l := l) (K := K) (Mo := Mo) (dl := dl) (ol := ol) (dr := dr) (ou := ou) (da := da) (eq := eq) (al := al) (fr := frOf us) (tk := tkOf us) (by_ := byOf by_) (ln := ln) (pl := plOf (K + Mo) pl) (X := X) hd
  rw [fr_at us hd] at hfs
  refine Con.of ?_
  refine J.iload_n d_V_room_0 rfl rfl ?_
  refine J.s1i (con_V_isDisk1 hd _) k_V_room_V_isDiskNumber d_V_room_1 rfl ?_
  refine J.if_eqN d_V_room_4 (tgt := 29) (by decide) (by omega) (fun h => ?_) (fun h => ?_)
  · exact absurd h (by decide)
  refine J.aload_n d_V_room_7 rfl rfl ?_
  refine J.getfield d_V_room_8 fl_V_25 rfl rfl ?_
  refine J.iload_n d_V_room_11 rfl rfl ?_
  refine J.v1i hal k_V_room_D_isAlive d_V_room_12 rfl rfl rfl ?_
  refine J.if_eqN d_V_room_15 (tgt := 29) (by decide) (by omega) (fun h => ?_) (fun h => ?_)
  · exact absurd h (by decide)
  refine J.aload_n d_V_room_18 rfl rfl ?_
  refine J.getfield d_V_room_19 fl_V_25 rfl rfl ?_
  refine J.iload_n d_V_room_22 rfl rfl ?_
  refine J.v1i hfs k_V_room_D_freeSlotsOf d_V_room_23 rfl rfl rfl ?_
  refine J.goto d_V_room_26 (tgt := 30) (by decide) ?_
  exact J.ireturn d_V_room_30 rfl (by decide) (by decide)
theorem con_V_room0 {x : Int32} (hx : x < 0 ∨ nI 8 ≤ x ∨ ∃ d, d < 8 ∧ x = nI d ∧ al d = 0) : Con l i_V_room [.ref 0, .int x] (CA K Mo dr dl ou ol da eq al us by_ ln pl X) (.inl (some (.int (pI 0)), (CA K Mo dr dl ou ol da eq al us by_ ln pl X))) := by
  have out : (x < 0 ∨ nI 8 ≤ x) → Con l i_V_room [.ref 0, .int x] (CA K Mo dr dl ou ol da eq al us by_ ln pl X) (.inl (some (.int (pI 0)), (CA K Mo dr dl ou ol da eq al us by_ ln pl X))) := by
    intro hx
    refine Con.of ?_
    refine J.iload_n d_V_room_0 rfl rfl ?_
    refine J.s1i (con_V_isDisk0 hx _) k_V_room_V_isDiskNumber d_V_room_1 rfl ?_
    refine J.if_eqN d_V_room_4 (tgt := 29) (by decide) (by omega) (fun h => ?_) (fun h => ?_)
    · refine J.iconst d_V_room_29 (v := pI 0) (by decide) ?_
      exact J.ireturn d_V_room_30 rfl (by decide) (by decide)
    · exact absurd rfl h
  rcases hx with hx | hx | ⟨d, hd, rfl, ha⟩
  · exact out (Or.inl hx)
  · exact out (Or.inr hx)
  · have hal := con_D_isAlive (l := l) (K := K) (Mo := Mo) (dl := dl) (ol := ol) (dr := dr) (ou := ou) (da := da) (eq := eq) (al := al) (fr := frOf us) (tk := tkOf us) (by_ := byOf by_) (ln := ln) (pl := plOf (K + Mo) pl) (X := X) hd (by omega)
    rw [ha] at hal
    refine Con.of ?_
    refine J.iload_n d_V_room_0 rfl rfl ?_
    refine J.s1i (con_V_isDisk1 hd _) k_V_room_V_isDiskNumber d_V_room_1 rfl ?_
    refine J.if_eqN d_V_room_4 (tgt := 29) (by decide) (by omega) (fun h => ?_) (fun h => ?_)
    · exact absurd h (by decide)
    refine J.aload_n d_V_room_7 rfl rfl ?_
    refine J.getfield d_V_room_8 fl_V_25 rfl rfl ?_
    refine J.iload_n d_V_room_11 rfl rfl ?_
    refine J.v1i hal k_V_room_D_isAlive d_V_room_12 rfl rfl rfl ?_
    refine J.if_eqN d_V_room_15 (tgt := 29) (by decide) (by omega) (fun h => ?_) (fun h => ?_)
    · refine J.iconst d_V_room_29 (v := pI 0) (by decide) ?_
      exact J.ireturn d_V_room_30 rfl (by decide) (by decide)
    · exact absurd rfl h
end PUB
