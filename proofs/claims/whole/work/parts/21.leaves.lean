/-! The catalogue's and the disks' small methods -/
section LEAVES
variable {l : Launch} {K Mo dl ol : Nat} {dr ou da eq al fr tk by_ ln pl : Nat → Nat} {X : List va_E}
theorem con_V_placeAt (d s : Nat) (M : List va_E) : Con l i_V_placeAt [.int (nI d), .int (nI s)] M (.inl (some (.int (nI (16 * d + s))), M)) := by
  refine Con.of ?_
  refine J.bipush d_V_placeAt_0 (v := nI 16) (by decide) ?_
  refine J.iload_n d_V_placeAt_2 rfl rfl ?_
  refine J.imulN d_V_placeAt_3 ?_
  refine J.iload_n d_V_placeAt_4 rfl rfl ?_
  refine J.iaddN d_V_placeAt_5 ?_
  exact J.ireturn d_V_placeAt_6 rfl (by decide) (by decide)
theorem con_D_isAlive {d : Nat} (hd : d < 8) (h2 : al d < 2) : Con l i_D_isAlive [.ref 5, .int (nI d)] (CM K Mo dr dl ou ol da eq al fr tk by_ ln pl X) (.inl (some (.int (nI (al d))), (CM K Mo dr dl ou ol da eq al fr tk by_ ln pl X))) := by
  refine Con.of ?_
  refine J.aload_n d_D_isAlive_0 rfl rfl ?_
  refine J.getfield d_D_isAlive_1 fl_D_9 rfl rfl ?_
  refine J.iload_n d_D_isAlive_4 rfl rfl ?_
  refine J.baloadN d_D_isAlive_5 rfl (by omega) (by omega) ?_
  first | exact J.zreturn d_D_isAlive_6 rfl rfl (by decide) (by decide) | exact J.zreturnN d_D_isAlive_6 rfl (by omega) (by decide) (by decide)
theorem con_D_freeSlotsOf {d : Nat} (hd : d < 8) : Con l i_D_freeSlotsOf [.ref 5, .int (nI d)] (CM K Mo dr dl ou ol da eq al fr tk by_ ln pl X) (.inl (some (.int (nI (fr d))), (CM K Mo dr dl ou ol da eq al fr tk by_ ln pl X))) := by
  refine Con.of ?_
  refine J.aload_n d_D_freeSlotsOf_0 rfl rfl ?_
  refine J.getfield d_D_freeSlotsOf_1 fl_D_15 rfl rfl ?_
  refine J.iload_n d_D_freeSlotsOf_4 rfl rfl ?_
  refine J.ialoadN d_D_freeSlotsOf_5 rfl (by omega) (by omega) ?_
  exact J.ireturn d_D_freeSlotsOf_6 rfl (by decide) (by decide)
theorem con_D_isTaken {q : Nat} (hq : q < 128) (h2 : tk q < 2) : Con l i_D_isTaken [.ref 5, .int (nI q)] (CM K Mo dr dl ou ol da eq al fr tk by_ ln pl X) (.inl (some (.int (nI (tk q))), (CM K Mo dr dl ou ol da eq al fr tk by_ ln pl X))) := by
  refine Con.of ?_
  refine J.aload_n d_D_isTaken_0 rfl rfl ?_
  refine J.getfield d_D_isTaken_1 fl_D_19 rfl rfl ?_
  refine J.iload_n d_D_isTaken_4 rfl rfl ?_
  refine J.baloadN d_D_isTaken_5 rfl (by omega) (by omega) ?_
  first | exact J.zreturn d_D_isTaken_6 rfl rfl (by decide) (by decide) | exact J.zreturnN d_D_isTaken_6 rfl (by omega) (by decide) (by decide)
theorem con_D_start {d : Nat} (hd : d < 8) : Con l i_D_start [.ref 5, .int (nI d)] (CM K Mo dr dl ou ol da eq al fr tk by_ ln pl X) (.inl (none, (CM K Mo dr dl ou ol da eq (up al d 1) fr tk by_ ln pl X))) := by
  refine Con.of ?_
  refine J.aload_n d_D_start_0 rfl rfl ?_
  refine J.getfield d_D_start_1 fl_D_9 rfl rfl ?_
  refine J.iload_n d_D_start_4 rfl rfl ?_
  refine J.iconst d_D_start_5 (v := nI 1) (by decide) ?_
  refine J.bastoreN d_D_start_6 rfl (by omega) (by omega) (by omega) ?_
  exact J.vreturn d_D_start_7 rfl (by decide) (by decide)
theorem con_D_byteAt {q t : Nat} (hq : q < 128) (ht : t < 4) : Con l i_D_byteAt [.ref 5, .int (nI q), .int (nI t)] (CM K Mo dr dl ou ol da eq al fr tk by_ ln pl X) (.inl (some (.int (nI (by_ (q * 4 + t)))), (CM K Mo dr dl ou ol da eq al fr tk by_ ln pl X))) := by
  refine Con.of ?_
  refine J.aload_n d_D_byteAt_0 rfl rfl ?_
  refine J.getfield d_D_byteAt_1 fl_D_22 rfl rfl ?_
  refine J.iload_n d_D_byteAt_4 rfl rfl ?_
  refine J.iconst d_D_byteAt_5 (v := nI 4) (by decide) ?_
  refine J.imulN d_D_byteAt_6 ?_
  refine J.iload_n d_D_byteAt_7 rfl rfl ?_
  refine J.iaddN d_D_byteAt_8 ?_
  refine J.ialoadN d_D_byteAt_9 rfl (by omega) (by omega) ?_
  exact J.ireturn d_D_byteAt_10 rfl (by decide) (by decide)
theorem con_D_setByte {q t v : Nat} (hq : q < 128) (ht : t < 4) : Con l i_D_setByte [.ref 5, .int (nI q), .int (nI t), .int (nI v)] (CM K Mo dr dl ou ol da eq al fr tk by_ ln pl X) (.inl (none, (CM K Mo dr dl ou ol da eq al fr tk (up by_ (q * 4 + t) v) ln pl X))) := by
  refine Con.of ?_
  refine J.aload_n d_D_setByte_0 rfl rfl ?_
  refine J.getfield d_D_setByte_1 fl_D_22 rfl rfl ?_
  refine J.iload_n d_D_setByte_4 rfl rfl ?_
  refine J.iconst d_D_setByte_5 (v := nI 4) (by decide) ?_
  refine J.imulN d_D_setByte_6 ?_
  refine J.iload_n d_D_setByte_7 rfl rfl ?_
  refine J.iaddN d_D_setByte_8 ?_
  refine J.iload_n d_D_setByte_9 rfl rfl ?_
  refine J.iastoreN d_D_setByte_10 rfl (by omega) (by omega) ?_
  exact J.vreturn d_D_setByte_11 rfl (by decide) (by decide)
theorem con_D_releaseSlot {q : Nat} (hq : q < 128) : Con l i_D_releaseSlot [.ref 5, .int (nI q)] (CM K Mo dr dl ou ol da eq al fr tk by_ ln pl X) (.inl (none, (CM K Mo dr dl ou ol da eq al (up fr (q / 16) (fr (q / 16) + 1)) (up tk q 0) by_ ln pl X))) := by
  refine Con.of ?_
  refine J.aload_n d_D_releaseSlot_0 rfl rfl ?_
  refine J.getfield d_D_releaseSlot_1 fl_D_19 rfl rfl ?_
  refine J.iload_n d_D_releaseSlot_4 rfl rfl ?_
  refine J.iconst d_D_releaseSlot_5 (v := nI 0) (by decide) ?_
  refine J.bastoreN d_D_releaseSlot_6 rfl (by omega) (by omega) (by omega) ?_
  refine J.aload_n d_D_releaseSlot_7 rfl rfl ?_
  refine J.getfield d_D_releaseSlot_8 fl_D_15 rfl rfl ?_
  refine J.iload_n d_D_releaseSlot_11 rfl rfl ?_
  refine J.bipush d_D_releaseSlot_12 (v := nI 16) (by decide) ?_
  refine J.idivN d_D_releaseSlot_14 (by omega) (by omega) (by omega) ?_
  refine J.dup2 d_D_releaseSlot_15 rfl rfl ?_
  refine J.ialoadN d_D_releaseSlot_16 rfl (by omega) (by omega) ?_
  refine J.iconst d_D_releaseSlot_17 (v := nI 1) (by decide) ?_
  refine J.iaddN d_D_releaseSlot_18 ?_
  refine J.iastoreN d_D_releaseSlot_19 rfl (by omega) (by omega) ?_
  exact J.vreturn d_D_releaseSlot_20 rfl (by decide) (by decide)
theorem con_G_holds {o : Nat} (ho : o < 6) (hl : ln o < 2 ^ 30) : Con l i_G_holds [.ref 10, .int (nI o)] (CM K Mo dr dl ou ol da eq al fr tk by_ ln pl X) (.inl (some (.int (nI (if 0 < ln o then 1 else 0))), (CM K Mo dr dl ou ol da eq al fr tk by_ ln pl X))) := by
  refine Con.of ?_
  refine J.aload_n d_G_holds_0 rfl rfl ?_
  refine J.getfield d_G_holds_1 fl_G_18 rfl rfl ?_
  refine J.iload_n d_G_holds_4 rfl rfl ?_
  refine J.ialoadN d_G_holds_5 rfl (by omega) (by omega) ?_
  refine J.if_leN d_G_holds_6 (tgt := 13) (by decide) (by omega) (fun h => ?_) (fun h => ?_)
  · rw [if_neg (by omega)]
    refine J.iconst d_G_holds_13 (v := nI 0) (by decide) ?_
    first | exact J.zreturn d_G_holds_14 rfl rfl (by decide) (by decide) | exact J.zreturnN d_G_holds_14 rfl (by omega) (by decide) (by decide)
  · rw [if_pos (by omega)]
    refine J.iconst d_G_holds_9 (v := nI 1) (by decide) ?_
    refine J.goto d_G_holds_10 (tgt := 14) (by decide) ?_
    first | exact J.zreturn d_G_holds_14 rfl rfl (by decide) (by decide) | exact J.zreturnN d_G_holds_14 rfl (by omega) (by decide) (by decide)
end LEAVES
