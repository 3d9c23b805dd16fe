/-! The law's helpers, printed by wip/whole/gen/lawhelp.py -/
theorem in_L : Cond.initialized NL ∈ lw_tbl := by decide +kernel
theorem cl_L_13 : Cond.classLink NL 13 "java/lang/IllegalArgumentException" ∈ lw_tbl := by decide +kernel
theorem cl_L_15 : Cond.classLink NL 15 "java/lang/IllegalStateException" ∈ lw_tbl := by decide +kernel
theorem cl_L_20 : Cond.classLink NL 20 "java/util/NoSuchElementException" ∈ lw_tbl := by decide +kernel
theorem cl_L_28 : Cond.classLink NL 28 "java/lang/IndexOutOfBoundsException" ∈ lw_tbl := by decide +kernel
theorem cl_L_54 : Cond.classLink NL 54 "java/lang/ArithmeticException" ∈ lw_tbl := by decide +kernel
/-- the law's long[1] -/
def lc (f : Nat → Int64) : va_E := .inl (2, 1, .inr (.inl f))
section HELP
variable {l : Launch} {M M1 : List va_E}
def i_L_store : MI := (y_L_store, NL, "store", c_L_store, [Cond.codeWith y_L_store c_L_store 4 (some .int) [(0, 9, 12, 13), (0, 9, 15, 15)]], 4, (some .int), { frames := 7, cells := 2, slots := 12, locals := 139 }, (2, 12), tableOf [(0, 9, 12, 13), (0, 9, 15, 15)], none)
theorem ml_L_7 : Cond.methodLink NL 7 y_V_store ∈ lw_tbl := by decide +kernel
theorem im9_V_store : Cond.instanceMethod y_V_store ∈ lw_tbl := by decide +kernel
theorem se9_V_store : Cond.selects NV y_V_store y_V_store ∈ lw_tbl := by decide +kernel
theorem k_L_store : CallV i_L_store i_V_store NV 7 1 := ⟨⟨⟨rfl, Or.inl rfl⟩, rfl, by decide, by decide, rfl, cb_V_store, in_V, ⟨by decide, by decide⟩, by decide +kernel⟩, ml_L_7, im9_V_store, se9_V_store⟩
theorem cw_L_store : Cond.codeWith y_L_store c_L_store 4 (some .int) [(0, 9, 12, 13), (0, 9, 15, 15)] ∈ lw_tbl := by decide +kernel
theorem st_L_store : Cond.static y_L_store ∈ lw_tbl := by decide +kernel
theorem hz_L_store {x1 a : Int32} {f : Nat → Int64} {fs : List Value} (hC : Con l i_V_store [.ref 0, .int x1] M (.inl (some (.int a), M1))) (h0 : M[0]? = some (.inr (0, fs))) (hlen : M1.length = M.length) (h27 : M1[27]? = some (lc f)) :
    Con l i_L_store [.ref 0, .int x1, .ref 27] M (.inl (some (.int (nI 0)), M1.set 27 (lc (vp_updL f 0 a.toInt64)))) := by
  refine Con.ofJW (hh := [(0, 9, 12, 13), (0, 9, 15, 15)]) (by decide) rfl rfl rfl rfl (Nat.le_of_ble_eq_true rfl) ?_
  refine J.aload_n d_L_store_0 rfl rfl ?_
  refine J.iconst d_L_store_1 (v := nI 0) (by decide) ?_
  refine J.aload_n d_L_store_2 rfl rfl ?_
  refine J.iload_n d_L_store_3 rfl rfl ?_
  refine J.v1i hC k_L_store d_L_store_4 h0 rfl hlen ?_
  refine J.i2l d_L_store_7 ?_
  refine J.lastoreR d_L_store_8 h27 (vp_in_nI (by decide) (by decide)) ?_
  refine J.goto d_L_store_9 (tgt := 18) (by decide) ?_
  refine J.iconst d_L_store_18 (v := nI 0) (by decide) ?_
  exact J.ireturn d_L_store_19 rfl (by decide) (by decide)
theorem h1_L_store {x1 : Int32} {fs : List Value} (hC : Con l i_V_store [.ref 0, .int x1] M (.inr ("java/lang/IllegalArgumentException", M1))) (h0 : M[0]? = some (.inr (0, fs))) (hlen : M1.length = M.length) : Con l i_L_store [.ref 0, .int x1, .ref 27] M (.inl (some (.int (nI 1)), M1)) := by
  refine Con.ofJW (hh := [(0, 9, 12, 13), (0, 9, 15, 15)]) (by decide) rfl rfl rfl rfl (Nat.le_of_ble_eq_true rfl) ?_
  refine J.aload_n d_L_store_0 rfl rfl ?_
  refine J.iconst d_L_store_1 (v := nI 0) (by decide) ?_
  refine J.aload_n d_L_store_2 rfl rfl ?_
  refine J.iload_n d_L_store_3 rfl rfl ?_
  refine J.caught (as := [.int x1]) (rest := [.int (nI 0), .ref 27]) (hp := 12) (w := 1) (i := 3) hC k_L_store d_L_store_4 h0 rfl rfl (Nat.le_of_ble_eq_true rfl) ⟨by decide, by decide⟩ (Or.inl ⟨⟨0, 9, 12, 13⟩, _, rfl, by decide, by decide, rfl, cl_L_13⟩) hlen (by decide) (Or.inl ⟨3, rfl, d_L_store_12, rfl⟩) ?_
  refine J.iconst d_L_store_13 (v := nI 1) (by decide) ?_
  exact J.ireturn d_L_store_14 rfl (by decide) (by decide)
theorem h2_L_store {x1 : Int32} {fs : List Value} (hC : Con l i_V_store [.ref 0, .int x1] M (.inr ("java/lang/IllegalStateException", M1))) (h0 : M[0]? = some (.inr (0, fs))) (hlen : M1.length = M.length) : Con l i_L_store [.ref 0, .int x1, .ref 27] M (.inl (some (.int (nI 2)), M1)) := by
  refine Con.ofJW (hh := [(0, 9, 12, 13), (0, 9, 15, 15)]) (by decide) rfl rfl rfl rfl (Nat.le_of_ble_eq_true rfl) ?_
  refine J.aload_n d_L_store_0 rfl rfl ?_
  refine J.iconst d_L_store_1 (v := nI 0) (by decide) ?_
  refine J.aload_n d_L_store_2 rfl rfl ?_
  refine J.iload_n d_L_store_3 rfl rfl ?_
  refine J.caught (as := [.int x1]) (rest := [.int (nI 0), .ref 27]) (hp := 15) (w := 1) (i := 3) hC k_L_store d_L_store_4 h0 rfl rfl (Nat.le_of_ble_eq_true rfl) ⟨by decide, by decide⟩ (Or.inr ⟨⟨0, 9, 12, 13⟩, ⟨0, 9, 15, 15⟩, _, _, rfl, ⟨by decide, by decide, cl_L_13, by decide⟩, by decide, by decide, rfl, cl_L_15⟩) hlen (by decide) (Or.inl ⟨3, rfl, d_L_store_15, rfl⟩) ?_
  refine J.iconst d_L_store_16 (v := nI 2) (by decide) ?_
  exact J.ireturn d_L_store_17 rfl (by decide) (by decide)
def i_L_drop : MI := (y_L_drop, NL, "drop", c_L_drop, [Cond.codeWith y_L_drop c_L_drop 4 (some .int) [(0, 9, 12, 20)]], 4, (some .int), { frames := 8, cells := 2, slots := 12, locals := 127 }, (2, 12), tableOf [(0, 9, 12, 20)], none)
theorem ml_L_17 : Cond.methodLink NL 17 y_V_drop ∈ lw_tbl := by decide +kernel
theorem im9_V_drop : Cond.instanceMethod y_V_drop ∈ lw_tbl := by decide +kernel
theorem se9_V_drop : Cond.selects NV y_V_drop y_V_drop ∈ lw_tbl := by decide +kernel
theorem k_L_drop : CallV i_L_drop i_V_drop NV 17 1 := ⟨⟨⟨rfl, Or.inl rfl⟩, rfl, by decide, by decide, rfl, cb_V_drop, in_V, ⟨by decide, by decide⟩, by decide +kernel⟩, ml_L_17, im9_V_drop, se9_V_drop⟩
theorem cw_L_drop : Cond.codeWith y_L_drop c_L_drop 4 (some .int) [(0, 9, 12, 20)] ∈ lw_tbl := by decide +kernel
theorem st_L_drop : Cond.static y_L_drop ∈ lw_tbl := by decide +kernel
theorem hz_L_drop {x1 a : Int32} {f : Nat → Int64} {fs : List Value} (hC : Con l i_V_drop [.ref 0, .int x1] M (.inl (some (.int a), M1))) (h0 : M[0]? = some (.inr (0, fs))) (hlen : M1.length = M.length) (h27 : M1[27]? = some (lc f)) :
    Con l i_L_drop [.ref 0, .int x1, .ref 27] M (.inl (some (.int (nI 0)), M1.set 27 (lc (vp_updL f 0 a.toInt64)))) := by
  refine Con.ofJW (hh := [(0, 9, 12, 20)]) (by decide) rfl rfl rfl rfl (Nat.le_of_ble_eq_true rfl) ?_
  refine J.aload_n d_L_drop_0 rfl rfl ?_
  refine J.iconst d_L_drop_1 (v := nI 0) (by decide) ?_
  refine J.aload_n d_L_drop_2 rfl rfl ?_
  refine J.iload_n d_L_drop_3 rfl rfl ?_
  refine J.v1i hC k_L_drop d_L_drop_4 h0 rfl hlen ?_
  refine J.i2l d_L_drop_7 ?_
  refine J.lastoreR d_L_drop_8 h27 (vp_in_nI (by decide) (by decide)) ?_
  refine J.goto d_L_drop_9 (tgt := 15) (by decide) ?_
  refine J.iconst d_L_drop_15 (v := nI 0) (by decide) ?_
  exact J.ireturn d_L_drop_16 rfl (by decide) (by decide)
theorem h1_L_drop {x1 : Int32} {fs : List Value} (hC : Con l i_V_drop [.ref 0, .int x1] M (.inr ("java/util/NoSuchElementException", M1))) (h0 : M[0]? = some (.inr (0, fs))) (hlen : M1.length = M.length) : Con l i_L_drop [.ref 0, .int x1, .ref 27] M (.inl (some (.int (nI 1)), M1)) := by
  refine Con.ofJW (hh := [(0, 9, 12, 20)]) (by decide) rfl rfl rfl rfl (Nat.le_of_ble_eq_true rfl) ?_
  refine J.aload_n d_L_drop_0 rfl rfl ?_
  refine J.iconst d_L_drop_1 (v := nI 0) (by decide) ?_
  refine J.aload_n d_L_drop_2 rfl rfl ?_
  refine J.iload_n d_L_drop_3 rfl rfl ?_
  refine J.caught (as := [.int x1]) (rest := [.int (nI 0), .ref 27]) (hp := 12) (w := 1) (i := 3) hC k_L_drop d_L_drop_4 h0 rfl rfl (Nat.le_of_ble_eq_true rfl) ⟨by decide, by decide⟩ (Or.inl ⟨⟨0, 9, 12, 20⟩, _, rfl, by decide, by decide, rfl, cl_L_20⟩) hlen (by decide) (Or.inl ⟨3, rfl, d_L_drop_12, rfl⟩) ?_
  refine J.iconst d_L_drop_13 (v := nI 1) (by decide) ?_
  exact J.ireturn d_L_drop_14 rfl (by decide) (by decide)
def i_L_get : MI := (y_L_get, NL, "get", c_L_get, [Cond.codeWith y_L_get c_L_get 4 (some .int) [(0, 9, 12, 20), (0, 9, 15, 15)]], 4, (some .int), { frames := 8, cells := 2, slots := 12, locals := 154 }, (2, 12), tableOf [(0, 9, 12, 20), (0, 9, 15, 15)], none)
theorem ml_L_22 : Cond.methodLink NL 22 y_V_get ∈ lw_tbl := by decide +kernel
theorem im9_V_get : Cond.instanceMethod y_V_get ∈ lw_tbl := by decide +kernel
theorem se9_V_get : Cond.selects NV y_V_get y_V_get ∈ lw_tbl := by decide +kernel
theorem k_L_get : CallV i_L_get i_V_get NV 22 1 := ⟨⟨⟨rfl, Or.inl rfl⟩, rfl, by decide, by decide, rfl, cb_V_get, in_V, ⟨by decide, by decide⟩, by decide +kernel⟩, ml_L_22, im9_V_get, se9_V_get⟩
theorem cw_L_get : Cond.codeWith y_L_get c_L_get 4 (some .int) [(0, 9, 12, 20), (0, 9, 15, 15)] ∈ lw_tbl := by decide +kernel
theorem st_L_get : Cond.static y_L_get ∈ lw_tbl := by decide +kernel
theorem hz_L_get {x1 a : Int32} {f : Nat → Int64} {fs : List Value} (hC : Con l i_V_get [.ref 0, .int x1] M (.inl (some (.int a), M1))) (h0 : M[0]? = some (.inr (0, fs))) (hlen : M1.length = M.length) (h27 : M1[27]? = some (lc f)) :
    Con l i_L_get [.ref 0, .int x1, .ref 27] M (.inl (some (.int (nI 0)), M1.set 27 (lc (vp_updL f 0 a.toInt64)))) := by
  refine Con.ofJW (hh := [(0, 9, 12, 20), (0, 9, 15, 15)]) (by decide) rfl rfl rfl rfl (Nat.le_of_ble_eq_true rfl) ?_
  refine J.aload_n d_L_get_0 rfl rfl ?_
  refine J.iconst d_L_get_1 (v := nI 0) (by decide) ?_
  refine J.aload_n d_L_get_2 rfl rfl ?_
  refine J.iload_n d_L_get_3 rfl rfl ?_
  refine J.v1i hC k_L_get d_L_get_4 h0 rfl hlen ?_
  refine J.i2l d_L_get_7 ?_
  refine J.lastoreR d_L_get_8 h27 (vp_in_nI (by decide) (by decide)) ?_
  refine J.goto d_L_get_9 (tgt := 18) (by decide) ?_
  refine J.iconst d_L_get_18 (v := nI 0) (by decide) ?_
  exact J.ireturn d_L_get_19 rfl (by decide) (by decide)
theorem h1_L_get {x1 : Int32} {fs : List Value} (hC : Con l i_V_get [.ref 0, .int x1] M (.inr ("java/util/NoSuchElementException", M1))) (h0 : M[0]? = some (.inr (0, fs))) (hlen : M1.length = M.length) : Con l i_L_get [.ref 0, .int x1, .ref 27] M (.inl (some (.int (nI 1)), M1)) := by
  refine Con.ofJW (hh := [(0, 9, 12, 20), (0, 9, 15, 15)]) (by decide) rfl rfl rfl rfl (Nat.le_of_ble_eq_true rfl) ?_
  refine J.aload_n d_L_get_0 rfl rfl ?_
  refine J.iconst d_L_get_1 (v := nI 0) (by decide) ?_
  refine J.aload_n d_L_get_2 rfl rfl ?_
  refine J.iload_n d_L_get_3 rfl rfl ?_
  refine J.caught (as := [.int x1]) (rest := [.int (nI 0), .ref 27]) (hp := 12) (w := 1) (i := 3) hC k_L_get d_L_get_4 h0 rfl rfl (Nat.le_of_ble_eq_true rfl) ⟨by decide, by decide⟩ (Or.inl ⟨⟨0, 9, 12, 20⟩, _, rfl, by decide, by decide, rfl, cl_L_20⟩) hlen (by decide) (Or.inl ⟨3, rfl, d_L_get_12, rfl⟩) ?_
  refine J.iconst d_L_get_13 (v := nI 1) (by decide) ?_
  exact J.ireturn d_L_get_14 rfl (by decide) (by decide)
theorem h2_L_get {x1 : Int32} {fs : List Value} (hC : Con l i_V_get [.ref 0, .int x1] M (.inr ("java/lang/IllegalStateException", M1))) (h0 : M[0]? = some (.inr (0, fs))) (hlen : M1.length = M.length) : Con l i_L_get [.ref 0, .int x1, .ref 27] M (.inl (some (.int (nI 2)), M1)) := by
  refine Con.ofJW (hh := [(0, 9, 12, 20), (0, 9, 15, 15)]) (by decide) rfl rfl rfl rfl (Nat.le_of_ble_eq_true rfl) ?_
  refine J.aload_n d_L_get_0 rfl rfl ?_
  refine J.iconst d_L_get_1 (v := nI 0) (by decide) ?_
  refine J.aload_n d_L_get_2 rfl rfl ?_
  refine J.iload_n d_L_get_3 rfl rfl ?_
  refine J.caught (as := [.int x1]) (rest := [.int (nI 0), .ref 27]) (hp := 15) (w := 1) (i := 3) hC k_L_get d_L_get_4 h0 rfl rfl (Nat.le_of_ble_eq_true rfl) ⟨by decide, by decide⟩ (Or.inr ⟨⟨0, 9, 12, 20⟩, ⟨0, 9, 15, 15⟩, _, _, rfl, ⟨by decide, by decide, cl_L_20, by decide⟩, by decide, by decide, rfl, cl_L_15⟩) hlen (by decide) (Or.inl ⟨3, rfl, d_L_get_15, rfl⟩) ?_
  refine J.iconst d_L_get_16 (v := nI 2) (by decide) ?_
  exact J.ireturn d_L_get_17 rfl (by decide) (by decide)
def i_L_at : MI := (y_L_at, NL, "at", c_L_at, [Cond.codeWith y_L_at c_L_at 4 (some .int) [(0, 9, 12, 28)]], 4, (some .int), { frames := 7, cells := 2, slots := 12, locals := 106 }, (2, 12), tableOf [(0, 9, 12, 28)], none)
theorem ml_L_25 : Cond.methodLink NL 25 y_V_at ∈ lw_tbl := by decide +kernel
theorem im9_V_at : Cond.instanceMethod y_V_at ∈ lw_tbl := by decide +kernel
theorem se9_V_at : Cond.selects NV y_V_at y_V_at ∈ lw_tbl := by decide +kernel
theorem k_L_at : CallV i_L_at i_V_at NV 25 1 := ⟨⟨⟨rfl, Or.inl rfl⟩, rfl, by decide, by decide, rfl, cb_V_at, in_V, ⟨by decide, by decide⟩, by decide +kernel⟩, ml_L_25, im9_V_at, se9_V_at⟩
theorem cw_L_at : Cond.codeWith y_L_at c_L_at 4 (some .int) [(0, 9, 12, 28)] ∈ lw_tbl := by decide +kernel
theorem st_L_at : Cond.static y_L_at ∈ lw_tbl := by decide +kernel
theorem hz_L_at {x1 a : Int32} {f : Nat → Int64} {fs : List Value} (hC : Con l i_V_at [.ref 0, .int x1] M (.inl (some (.int a), M1))) (h0 : M[0]? = some (.inr (0, fs))) (hlen : M1.length = M.length) (h27 : M1[27]? = some (lc f)) :
    Con l i_L_at [.ref 0, .int x1, .ref 27] M (.inl (some (.int (nI 0)), M1.set 27 (lc (vp_updL f 0 a.toInt64)))) := by
  refine Con.ofJW (hh := [(0, 9, 12, 28)]) (by decide) rfl rfl rfl rfl (Nat.le_of_ble_eq_true rfl) ?_
  refine J.aload_n d_L_at_0 rfl rfl ?_
  refine J.iconst d_L_at_1 (v := nI 0) (by decide) ?_
  refine J.aload_n d_L_at_2 rfl rfl ?_
  refine J.iload_n d_L_at_3 rfl rfl ?_
  refine J.v1i hC k_L_at d_L_at_4 h0 rfl hlen ?_
  refine J.i2l d_L_at_7 ?_
  refine J.lastoreR d_L_at_8 h27 (vp_in_nI (by decide) (by decide)) ?_
  refine J.goto d_L_at_9 (tgt := 15) (by decide) ?_
  refine J.iconst d_L_at_15 (v := nI 0) (by decide) ?_
  exact J.ireturn d_L_at_16 rfl (by decide) (by decide)
theorem h1_L_at {x1 : Int32} {fs : List Value} (hC : Con l i_V_at [.ref 0, .int x1] M (.inr ("java/lang/IndexOutOfBoundsException", M1))) (h0 : M[0]? = some (.inr (0, fs))) (hlen : M1.length = M.length) : Con l i_L_at [.ref 0, .int x1, .ref 27] M (.inl (some (.int (nI 1)), M1)) := by
  refine Con.ofJW (hh := [(0, 9, 12, 28)]) (by decide) rfl rfl rfl rfl (Nat.le_of_ble_eq_true rfl) ?_
  refine J.aload_n d_L_at_0 rfl rfl ?_
  refine J.iconst d_L_at_1 (v := nI 0) (by decide) ?_
  refine J.aload_n d_L_at_2 rfl rfl ?_
  refine J.iload_n d_L_at_3 rfl rfl ?_
  refine J.caught (as := [.int x1]) (rest := [.int (nI 0), .ref 27]) (hp := 12) (w := 1) (i := 3) hC k_L_at d_L_at_4 h0 rfl rfl (Nat.le_of_ble_eq_true rfl) ⟨by decide, by decide⟩ (Or.inl ⟨⟨0, 9, 12, 28⟩, _, rfl, by decide, by decide, rfl, cl_L_28⟩) hlen (by decide) (Or.inl ⟨3, rfl, d_L_at_12, rfl⟩) ?_
  refine J.iconst d_L_at_13 (v := nI 1) (by decide) ?_
  exact J.ireturn d_L_at_14 rfl (by decide) (by decide)
def i_L_fail : MI := (y_L_fail, NL, "fail", c_L_fail, [Cond.codeWith y_L_fail c_L_fail 4 (some .int) [(0, 9, 12, 13), (0, 9, 15, 15)]], 4, (some .int), { frames := 8, cells := 2, slots := 12, locals := 128 }, (2, 12), tableOf [(0, 9, 12, 13), (0, 9, 15, 15)], none)
theorem ml_L_30 : Cond.methodLink NL 30 y_V_fail ∈ lw_tbl := by decide +kernel
theorem im9_V_fail : Cond.instanceMethod y_V_fail ∈ lw_tbl := by decide +kernel
theorem se9_V_fail : Cond.selects NV y_V_fail y_V_fail ∈ lw_tbl := by decide +kernel
theorem k_L_fail : CallV i_L_fail i_V_fail NV 30 1 := ⟨⟨⟨rfl, Or.inl rfl⟩, rfl, by decide, by decide, rfl, cb_V_fail, in_V, ⟨by decide, by decide⟩, by decide +kernel⟩, ml_L_30, im9_V_fail, se9_V_fail⟩
theorem cw_L_fail : Cond.codeWith y_L_fail c_L_fail 4 (some .int) [(0, 9, 12, 13), (0, 9, 15, 15)] ∈ lw_tbl := by decide +kernel
theorem st_L_fail : Cond.static y_L_fail ∈ lw_tbl := by decide +kernel
theorem hz_L_fail {x1 a : Int32} {f : Nat → Int64} {fs : List Value} (hC : Con l i_V_fail [.ref 0, .int x1] M (.inl (some (.int a), M1))) (h0 : M[0]? = some (.inr (0, fs))) (hlen : M1.length = M.length) (h27 : M1[27]? = some (lc f)) :
    Con l i_L_fail [.ref 0, .int x1, .ref 27] M (.inl (some (.int (nI 0)), M1.set 27 (lc (vp_updL f 0 a.toInt64)))) := by
  refine Con.ofJW (hh := [(0, 9, 12, 13), (0, 9, 15, 15)]) (by decide) rfl rfl rfl rfl (Nat.le_of_ble_eq_true rfl) ?_
  refine J.aload_n d_L_fail_0 rfl rfl ?_
  refine J.iconst d_L_fail_1 (v := nI 0) (by decide) ?_
  refine J.aload_n d_L_fail_2 rfl rfl ?_
  refine J.iload_n d_L_fail_3 rfl rfl ?_
  refine J.v1i hC k_L_fail d_L_fail_4 h0 rfl hlen ?_
  refine J.i2l d_L_fail_7 ?_
  refine J.lastoreR d_L_fail_8 h27 (vp_in_nI (by decide) (by decide)) ?_
  refine J.goto d_L_fail_9 (tgt := 18) (by decide) ?_
  refine J.iconst d_L_fail_18 (v := nI 0) (by decide) ?_
  exact J.ireturn d_L_fail_19 rfl (by decide) (by decide)
theorem h1_L_fail {x1 : Int32} {fs : List Value} (hC : Con l i_V_fail [.ref 0, .int x1] M (.inr ("java/lang/IllegalArgumentException", M1))) (h0 : M[0]? = some (.inr (0, fs))) (hlen : M1.length = M.length) : Con l i_L_fail [.ref 0, .int x1, .ref 27] M (.inl (some (.int (nI 1)), M1)) := by
  refine Con.ofJW (hh := [(0, 9, 12, 13), (0, 9, 15, 15)]) (by decide) rfl rfl rfl rfl (Nat.le_of_ble_eq_true rfl) ?_
  refine J.aload_n d_L_fail_0 rfl rfl ?_
  refine J.iconst d_L_fail_1 (v := nI 0) (by decide) ?_
  refine J.aload_n d_L_fail_2 rfl rfl ?_
  refine J.iload_n d_L_fail_3 rfl rfl ?_
  refine J.caught (as := [.int x1]) (rest := [.int (nI 0), .ref 27]) (hp := 12) (w := 1) (i := 3) hC k_L_fail d_L_fail_4 h0 rfl rfl (Nat.le_of_ble_eq_true rfl) ⟨by decide, by decide⟩ (Or.inl ⟨⟨0, 9, 12, 13⟩, _, rfl, by decide, by decide, rfl, cl_L_13⟩) hlen (by decide) (Or.inl ⟨3, rfl, d_L_fail_12, rfl⟩) ?_
  refine J.iconst d_L_fail_13 (v := nI 1) (by decide) ?_
  exact J.ireturn d_L_fail_14 rfl (by decide) (by decide)
theorem h2_L_fail {x1 : Int32} {fs : List Value} (hC : Con l i_V_fail [.ref 0, .int x1] M (.inr ("java/lang/IllegalStateException", M1))) (h0 : M[0]? = some (.inr (0, fs))) (hlen : M1.length = M.length) : Con l i_L_fail [.ref 0, .int x1, .ref 27] M (.inl (some (.int (nI 2)), M1)) := by
  refine Con.ofJW (hh := [(0, 9, 12, 13), (0, 9, 15, 15)]) (by decide) rfl rfl rfl rfl (Nat.le_of_ble_eq_true rfl) ?_
  refine J.aload_n d_L_fail_0 rfl rfl ?_
  refine J.iconst d_L_fail_1 (v := nI 0) (by decide) ?_
  refine J.aload_n d_L_fail_2 rfl rfl ?_
  refine J.iload_n d_L_fail_3 rfl rfl ?_
  refine J.caught (as := [.int x1]) (rest := [.int (nI 0), .ref 27]) (hp := 15) (w := 1) (i := 3) hC k_L_fail d_L_fail_4 h0 rfl rfl (Nat.le_of_ble_eq_true rfl) ⟨by decide, by decide⟩ (Or.inr ⟨⟨0, 9, 12, 13⟩, ⟨0, 9, 15, 15⟩, _, _, rfl, ⟨by decide, by decide, cl_L_13, by decide⟩, by decide, by decide, rfl, cl_L_15⟩) hlen (by decide) (Or.inl ⟨3, rfl, d_L_fail_15, rfl⟩) ?_
  refine J.iconst d_L_fail_16 (v := nI 2) (by decide) ?_
  exact J.ireturn d_L_fail_17 rfl (by decide) (by decide)
def i_L_renew : MI := (y_L_renew, NL, "renew", c_L_renew, [Cond.codeWith y_L_renew c_L_renew 4 (some .int) [(0, 9, 12, 13), (0, 9, 15, 15)]], 4, (some .int), { frames := 8, cells := 2, slots := 12, locals := 127 }, (2, 12), tableOf [(0, 9, 12, 13), (0, 9, 15, 15)], none)
theorem ml_L_33 : Cond.methodLink NL 33 y_V_renew ∈ lw_tbl := by decide +kernel
theorem im9_V_renew : Cond.instanceMethod y_V_renew ∈ lw_tbl := by decide +kernel
theorem se9_V_renew : Cond.selects NV y_V_renew y_V_renew ∈ lw_tbl := by decide +kernel
theorem k_L_renew : CallV i_L_renew i_V_renew NV 33 1 := ⟨⟨⟨rfl, Or.inl rfl⟩, rfl, by decide, by decide, rfl, cb_V_renew, in_V, ⟨by decide, by decide⟩, by decide +kernel⟩, ml_L_33, im9_V_renew, se9_V_renew⟩
theorem cw_L_renew : Cond.codeWith y_L_renew c_L_renew 4 (some .int) [(0, 9, 12, 13), (0, 9, 15, 15)] ∈ lw_tbl := by decide +kernel
theorem st_L_renew : Cond.static y_L_renew ∈ lw_tbl := by decide +kernel
theorem hz_L_renew {x1 a : Int32} {f : Nat → Int64} {fs : List Value} (hC : Con l i_V_renew [.ref 0, .int x1] M (.inl (some (.int a), M1))) (h0 : M[0]? = some (.inr (0, fs))) (hlen : M1.length = M.length) (h27 : M1[27]? = some (lc f)) :
    Con l i_L_renew [.ref 0, .int x1, .ref 27] M (.inl (some (.int (nI 0)), M1.set 27 (lc (vp_updL f 0 a.toInt64)))) := by
  refine Con.ofJW (hh := [(0, 9, 12, 13), (0, 9, 15, 15)]) (by decide) rfl rfl rfl rfl (Nat.le_of_ble_eq_true rfl) ?_
  refine J.aload_n d_L_renew_0 rfl rfl ?_
  refine J.iconst d_L_renew_1 (v := nI 0) (by decide) ?_
  refine J.aload_n d_L_renew_2 rfl rfl ?_
  refine J.iload_n d_L_renew_3 rfl rfl ?_
  refine J.v1i hC k_L_renew d_L_renew_4 h0 rfl hlen ?_
  refine J.i2l d_L_renew_7 ?_
  refine J.lastoreR d_L_renew_8 h27 (vp_in_nI (by decide) (by decide)) ?_
  refine J.goto d_L_renew_9 (tgt := 18) (by decide) ?_
  refine J.iconst d_L_renew_18 (v := nI 0) (by decide) ?_
  exact J.ireturn d_L_renew_19 rfl (by decide) (by decide)
theorem h1_L_renew {x1 : Int32} {fs : List Value} (hC : Con l i_V_renew [.ref 0, .int x1] M (.inr ("java/lang/IllegalArgumentException", M1))) (h0 : M[0]? = some (.inr (0, fs))) (hlen : M1.length = M.length) : Con l i_L_renew [.ref 0, .int x1, .ref 27] M (.inl (some (.int (nI 1)), M1)) := by
  refine Con.ofJW (hh := [(0, 9, 12, 13), (0, 9, 15, 15)]) (by decide) rfl rfl rfl rfl (Nat.le_of_ble_eq_true rfl) ?_
  refine J.aload_n d_L_renew_0 rfl rfl ?_
  refine J.iconst d_L_renew_1 (v := nI 0) (by decide) ?_
  refine J.aload_n d_L_renew_2 rfl rfl ?_
  refine J.iload_n d_L_renew_3 rfl rfl ?_
  refine J.caught (as := [.int x1]) (rest := [.int (nI 0), .ref 27]) (hp := 12) (w := 1) (i := 3) hC k_L_renew d_L_renew_4 h0 rfl rfl (Nat.le_of_ble_eq_true rfl) ⟨by decide, by decide⟩ (Or.inl ⟨⟨0, 9, 12, 13⟩, _, rfl, by decide, by decide, rfl, cl_L_13⟩) hlen (by decide) (Or.inl ⟨3, rfl, d_L_renew_12, rfl⟩) ?_
  refine J.iconst d_L_renew_13 (v := nI 1) (by decide) ?_
  exact J.ireturn d_L_renew_14 rfl (by decide) (by decide)
theorem h2_L_renew {x1 : Int32} {fs : List Value} (hC : Con l i_V_renew [.ref 0, .int x1] M (.inr ("java/lang/IllegalStateException", M1))) (h0 : M[0]? = some (.inr (0, fs))) (hlen : M1.length = M.length) : Con l i_L_renew [.ref 0, .int x1, .ref 27] M (.inl (some (.int (nI 2)), M1)) := by
  refine Con.ofJW (hh := [(0, 9, 12, 13), (0, 9, 15, 15)]) (by decide) rfl rfl rfl rfl (Nat.le_of_ble_eq_true rfl) ?_
  refine J.aload_n d_L_renew_0 rfl rfl ?_
  refine J.iconst d_L_renew_1 (v := nI 0) (by decide) ?_
  refine J.aload_n d_L_renew_2 rfl rfl ?_
  refine J.iload_n d_L_renew_3 rfl rfl ?_
  refine J.caught (as := [.int x1]) (rest := [.int (nI 0), .ref 27]) (hp := 15) (w := 1) (i := 3) hC k_L_renew d_L_renew_4 h0 rfl rfl (Nat.le_of_ble_eq_true rfl) ⟨by decide, by decide⟩ (Or.inr ⟨⟨0, 9, 12, 13⟩, ⟨0, 9, 15, 15⟩, _, _, rfl, ⟨by decide, by decide, cl_L_13, by decide⟩, by decide, by decide, rfl, cl_L_15⟩) hlen (by decide) (Or.inl ⟨3, rfl, d_L_renew_15, rfl⟩) ?_
  refine J.iconst d_L_renew_16 (v := nI 2) (by decide) ?_
  exact J.ireturn d_L_renew_17 rfl (by decide) (by decide)
def i_L_check : MI := (y_L_check, NL, "check", c_L_check, [Cond.codeWith y_L_check c_L_check 4 (some .int) [(0, 9, 12, 20)]], 4, (some .int), { frames := 8, cells := 2, slots := 12, locals := 179 }, (2, 12), tableOf [(0, 9, 12, 20)], none)
theorem ml_L_36 : Cond.methodLink NL 36 y_V_check ∈ lw_tbl := by decide +kernel
theorem im9_V_check : Cond.instanceMethod y_V_check ∈ lw_tbl := by decide +kernel
theorem se9_V_check : Cond.selects NV y_V_check y_V_check ∈ lw_tbl := by decide +kernel
theorem k_L_check : CallV i_L_check i_V_check NV 36 1 := ⟨⟨⟨rfl, Or.inl rfl⟩, rfl, by decide, by decide, rfl, cb_V_check, in_V, ⟨by decide, by decide⟩, by decide +kernel⟩, ml_L_36, im9_V_check, se9_V_check⟩
theorem cw_L_check : Cond.codeWith y_L_check c_L_check 4 (some .int) [(0, 9, 12, 20)] ∈ lw_tbl := by decide +kernel
theorem st_L_check : Cond.static y_L_check ∈ lw_tbl := by decide +kernel
theorem hz_L_check {x1 a : Int32} {f : Nat → Int64} {fs : List Value} (hC : Con l i_V_check [.ref 0, .int x1] M (.inl (some (.int a), M1))) (h0 : M[0]? = some (.inr (0, fs))) (hlen : M1.length = M.length) (h27 : M1[27]? = some (lc f)) :
    Con l i_L_check [.ref 0, .int x1, .ref 27] M (.inl (some (.int (nI 0)), M1.set 27 (lc (vp_updL f 0 a.toInt64)))) := by
  refine Con.ofJW (hh := [(0, 9, 12, 20)]) (by decide) rfl rfl rfl rfl (Nat.le_of_ble_eq_true rfl) ?_
  refine J.aload_n d_L_check_0 rfl rfl ?_
  refine J.iconst d_L_check_1 (v := nI 0) (by decide) ?_
  refine J.aload_n d_L_check_2 rfl rfl ?_
  refine J.iload_n d_L_check_3 rfl rfl ?_
  refine J.v1i hC k_L_check d_L_check_4 h0 rfl hlen ?_
  refine J.i2l d_L_check_7 ?_
  refine J.lastoreR d_L_check_8 h27 (vp_in_nI (by decide) (by decide)) ?_
  refine J.goto d_L_check_9 (tgt := 15) (by decide) ?_
  refine J.iconst d_L_check_15 (v := nI 0) (by decide) ?_
  exact J.ireturn d_L_check_16 rfl (by decide) (by decide)
theorem h1_L_check {x1 : Int32} {fs : List Value} (hC : Con l i_V_check [.ref 0, .int x1] M (.inr ("java/util/NoSuchElementException", M1))) (h0 : M[0]? = some (.inr (0, fs))) (hlen : M1.length = M.length) : Con l i_L_check [.ref 0, .int x1, .ref 27] M (.inl (some (.int (nI 1)), M1)) := by
  refine Con.ofJW (hh := [(0, 9, 12, 20)]) (by decide) rfl rfl rfl rfl (Nat.le_of_ble_eq_true rfl) ?_
  refine J.aload_n d_L_check_0 rfl rfl ?_
  refine J.iconst d_L_check_1 (v := nI 0) (by decide) ?_
  refine J.aload_n d_L_check_2 rfl rfl ?_
  refine J.iload_n d_L_check_3 rfl rfl ?_
  refine J.caught (as := [.int x1]) (rest := [.int (nI 0), .ref 27]) (hp := 12) (w := 1) (i := 3) hC k_L_check d_L_check_4 h0 rfl rfl (Nat.le_of_ble_eq_true rfl) ⟨by decide, by decide⟩ (Or.inl ⟨⟨0, 9, 12, 20⟩, _, rfl, by decide, by decide, rfl, cl_L_20⟩) hlen (by decide) (Or.inl ⟨3, rfl, d_L_check_12, rfl⟩) ?_
  refine J.iconst d_L_check_13 (v := nI 1) (by decide) ?_
  exact J.ireturn d_L_check_14 rfl (by decide) (by decide)
def i_L_harm : MI := (y_L_harm, NL, "harm", c_L_harm, [Cond.codeWith y_L_harm c_L_harm 7 (some .int) [(0, 14, 17, 13), (0, 14, 21, 20)]], 7, (some .int), { frames := 9, cells := 2, slots := 12, locals := 155 }, (2, 12), tableOf [(0, 14, 17, 13), (0, 14, 21, 20)], none)
theorem ml_L_39 : Cond.methodLink NL 39 y_V_harm ∈ lw_tbl := by decide +kernel
theorem im9_V_harm : Cond.instanceMethod y_V_harm ∈ lw_tbl := by decide +kernel
theorem se9_V_harm : Cond.selects NV y_V_harm y_V_harm ∈ lw_tbl := by decide +kernel
theorem k_L_harm : CallV i_L_harm i_V_harm NV 39 4 := ⟨⟨⟨rfl, Or.inl rfl⟩, rfl, by decide, by decide, rfl, cb_V_harm, in_V, ⟨by decide, by decide⟩, by decide +kernel⟩, ml_L_39, im9_V_harm, se9_V_harm⟩
theorem cw_L_harm : Cond.codeWith y_L_harm c_L_harm 7 (some .int) [(0, 14, 17, 13), (0, 14, 21, 20)] ∈ lw_tbl := by decide +kernel
theorem st_L_harm : Cond.static y_L_harm ∈ lw_tbl := by decide +kernel
theorem hz_L_harm {x1 x2 x3 x4 a : Int32} {f : Nat → Int64} {fs : List Value} (hC : Con l i_V_harm [.ref 0, .int x1, .int x2, .int x3, .int x4] M (.inl (some (.int a), M1))) (h0 : M[0]? = some (.inr (0, fs))) (hlen : M1.length = M.length) (h27 : M1[27]? = some (lc f)) :
    Con l i_L_harm [.ref 0, .int x1, .int x2, .int x3, .int x4, .ref 27] M (.inl (some (.int (nI 0)), M1.set 27 (lc (vp_updL f 0 a.toInt64)))) := by
  refine Con.ofJW (hh := [(0, 14, 17, 13), (0, 14, 21, 20)]) (by decide) rfl rfl rfl rfl (Nat.le_of_ble_eq_true rfl) ?_
  refine J.aload d_L_harm_0 rfl ?_
  refine J.iconst d_L_harm_2 (v := nI 0) (by decide) ?_
  refine J.aload_n d_L_harm_3 rfl rfl ?_
  refine J.iload_n d_L_harm_4 rfl rfl ?_
  refine J.iload_n d_L_harm_5 rfl rfl ?_
  refine J.iload_n d_L_harm_6 rfl rfl ?_
  refine J.iload d_L_harm_7 rfl ?_
  refine J.v4i hC k_L_harm d_L_harm_9 h0 rfl hlen ?_
  refine J.i2l d_L_harm_12 ?_
  refine J.lastoreR d_L_harm_13 h27 (vp_in_nI (by decide) (by decide)) ?_
  refine J.goto d_L_harm_14 (tgt := 25) (by decide) ?_
  refine J.iconst d_L_harm_25 (v := nI 0) (by decide) ?_
  exact J.ireturn d_L_harm_26 rfl (by decide) (by decide)
theorem h1_L_harm {x1 x2 x3 x4 : Int32} {fs : List Value} (hC : Con l i_V_harm [.ref 0, .int x1, .int x2, .int x3, .int x4] M (.inr ("java/lang/IllegalArgumentException", M1))) (h0 : M[0]? = some (.inr (0, fs))) (hlen : M1.length = M.length) : Con l i_L_harm [.ref 0, .int x1, .int x2, .int x3, .int x4, .ref 27] M (.inl (some (.int (nI 1)), M1)) := by
  refine Con.ofJW (hh := [(0, 14, 17, 13), (0, 14, 21, 20)]) (by decide) rfl rfl rfl rfl (Nat.le_of_ble_eq_true rfl) ?_
  refine J.aload d_L_harm_0 rfl ?_
  refine J.iconst d_L_harm_2 (v := nI 0) (by decide) ?_
  refine J.aload_n d_L_harm_3 rfl rfl ?_
  refine J.iload_n d_L_harm_4 rfl rfl ?_
  refine J.iload_n d_L_harm_5 rfl rfl ?_
  refine J.iload_n d_L_harm_6 rfl rfl ?_
  refine J.iload d_L_harm_7 rfl ?_
  refine J.caught (as := [.int x1, .int x2, .int x3, .int x4]) (rest := [.int (nI 0), .ref 27]) (hp := 17) (w := 2) (i := 6) hC k_L_harm d_L_harm_9 h0 rfl rfl (Nat.le_of_ble_eq_true rfl) ⟨by decide, by decide⟩ (Or.inl ⟨⟨0, 14, 17, 13⟩, _, rfl, by decide, by decide, rfl, cl_L_13⟩) hlen (by decide) (Or.inr ⟨d_L_harm_17, rfl⟩) ?_
  refine J.iconst d_L_harm_19 (v := nI 1) (by decide) ?_
  exact J.ireturn d_L_harm_20 rfl (by decide) (by decide)
theorem h2_L_harm {x1 x2 x3 x4 : Int32} {fs : List Value} (hC : Con l i_V_harm [.ref 0, .int x1, .int x2, .int x3, .int x4] M (.inr ("java/util/NoSuchElementException", M1))) (h0 : M[0]? = some (.inr (0, fs))) (hlen : M1.length = M.length) : Con l i_L_harm [.ref 0, .int x1, .int x2, .int x3, .int x4, .ref 27] M (.inl (some (.int (nI 2)), M1)) := by
  refine Con.ofJW (hh := [(0, 14, 17, 13), (0, 14, 21, 20)]) (by decide) rfl rfl rfl rfl (Nat.le_of_ble_eq_true rfl) ?_
  refine J.aload d_L_harm_0 rfl ?_
  refine J.iconst d_L_harm_2 (v := nI 0) (by decide) ?_
  refine J.aload_n d_L_harm_3 rfl rfl ?_
  refine J.iload_n d_L_harm_4 rfl rfl ?_
  refine J.iload_n d_L_harm_5 rfl rfl ?_
  refine J.iload_n d_L_harm_6 rfl rfl ?_
  refine J.iload d_L_harm_7 rfl ?_
  refine J.caught (as := [.int x1, .int x2, .int x3, .int x4]) (rest := [.int (nI 0), .ref 27]) (hp := 21) (w := 2) (i := 6) hC k_L_harm d_L_harm_9 h0 rfl rfl (Nat.le_of_ble_eq_true rfl) ⟨by decide, by decide⟩ (Or.inr ⟨⟨0, 14, 17, 13⟩, ⟨0, 14, 21, 20⟩, _, _, rfl, ⟨by decide, by decide, cl_L_13, by decide⟩, by decide, by decide, rfl, cl_L_20⟩) hlen (by decide) (Or.inr ⟨d_L_harm_21, rfl⟩) ?_
  refine J.iconst d_L_harm_23 (v := nI 2) (by decide) ?_
  exact J.ireturn d_L_harm_24 rfl (by decide) (by decide)
def i_L_stored : MI := (y_L_stored, NL, "stored", c_L_stored, [Cond.codeWith y_L_stored c_L_stored 6 (some .int) [(0, 12, 15, 13), (0, 12, 19, 20)]], 6, (some .int), { frames := 9, cells := 2, slots := 12, locals := 152 }, (2, 12), tableOf [(0, 12, 15, 13), (0, 12, 19, 20)], none)
theorem ml_L_43 : Cond.methodLink NL 43 y_V_stored ∈ lw_tbl := by decide +kernel
theorem im9_V_stored : Cond.instanceMethod y_V_stored ∈ lw_tbl := by decide +kernel
theorem se9_V_stored : Cond.selects NV y_V_stored y_V_stored ∈ lw_tbl := by decide +kernel
theorem k_L_stored : CallV i_L_stored i_V_stored NV 43 3 := ⟨⟨⟨rfl, Or.inl rfl⟩, rfl, by decide, by decide, rfl, cb_V_stored, in_V, ⟨by decide, by decide⟩, by decide +kernel⟩, ml_L_43, im9_V_stored, se9_V_stored⟩
theorem cw_L_stored : Cond.codeWith y_L_stored c_L_stored 6 (some .int) [(0, 12, 15, 13), (0, 12, 19, 20)] ∈ lw_tbl := by decide +kernel
theorem st_L_stored : Cond.static y_L_stored ∈ lw_tbl := by decide +kernel
theorem hz_L_stored {x1 x2 x3 a : Int32} {f : Nat → Int64} {fs : List Value} (hC : Con l i_V_stored [.ref 0, .int x1, .int x2, .int x3] M (.inl (some (.int a), M1))) (h0 : M[0]? = some (.inr (0, fs))) (hlen : M1.length = M.length) (h27 : M1[27]? = some (lc f)) :
    Con l i_L_stored [.ref 0, .int x1, .int x2, .int x3, .ref 27] M (.inl (some (.int (nI 0)), M1.set 27 (lc (vp_updL f 0 a.toInt64)))) := by
  refine Con.ofJW (hh := [(0, 12, 15, 13), (0, 12, 19, 20)]) (by decide) rfl rfl rfl rfl (Nat.le_of_ble_eq_true rfl) ?_
  refine J.aload d_L_stored_0 rfl ?_
  refine J.iconst d_L_stored_2 (v := nI 0) (by decide) ?_
  refine J.aload_n d_L_stored_3 rfl rfl ?_
  refine J.iload_n d_L_stored_4 rfl rfl ?_
  refine J.iload_n d_L_stored_5 rfl rfl ?_
  refine J.iload_n d_L_stored_6 rfl rfl ?_
  refine J.v3i hC k_L_stored d_L_stored_7 h0 rfl hlen ?_
  refine J.i2l d_L_stored_10 ?_
  refine J.lastoreR d_L_stored_11 h27 (vp_in_nI (by decide) (by decide)) ?_
  refine J.goto d_L_stored_12 (tgt := 23) (by decide) ?_
  refine J.iconst d_L_stored_23 (v := nI 0) (by decide) ?_
  exact J.ireturn d_L_stored_24 rfl (by decide) (by decide)
theorem h1_L_stored {x1 x2 x3 : Int32} {fs : List Value} (hC : Con l i_V_stored [.ref 0, .int x1, .int x2, .int x3] M (.inr ("java/lang/IllegalArgumentException", M1))) (h0 : M[0]? = some (.inr (0, fs))) (hlen : M1.length = M.length) : Con l i_L_stored [.ref 0, .int x1, .int x2, .int x3, .ref 27] M (.inl (some (.int (nI 1)), M1)) := by
  refine Con.ofJW (hh := [(0, 12, 15, 13), (0, 12, 19, 20)]) (by decide) rfl rfl rfl rfl (Nat.le_of_ble_eq_true rfl) ?_
  refine J.aload d_L_stored_0 rfl ?_
  refine J.iconst d_L_stored_2 (v := nI 0) (by decide) ?_
  refine J.aload_n d_L_stored_3 rfl rfl ?_
  refine J.iload_n d_L_stored_4 rfl rfl ?_
  refine J.iload_n d_L_stored_5 rfl rfl ?_
  refine J.iload_n d_L_stored_6 rfl rfl ?_
  refine J.caught (as := [.int x1, .int x2, .int x3]) (rest := [.int (nI 0), .ref 27]) (hp := 15) (w := 2) (i := 5) hC k_L_stored d_L_stored_7 h0 rfl rfl (Nat.le_of_ble_eq_true rfl) ⟨by decide, by decide⟩ (Or.inl ⟨⟨0, 12, 15, 13⟩, _, rfl, by decide, by decide, rfl, cl_L_13⟩) hlen (by decide) (Or.inr ⟨d_L_stored_15, rfl⟩) ?_
  refine J.iconst d_L_stored_17 (v := nI 1) (by decide) ?_
  exact J.ireturn d_L_stored_18 rfl (by decide) (by decide)
theorem h2_L_stored {x1 x2 x3 : Int32} {fs : List Value} (hC : Con l i_V_stored [.ref 0, .int x1, .int x2, .int x3] M (.inr ("java/util/NoSuchElementException", M1))) (h0 : M[0]? = some (.inr (0, fs))) (hlen : M1.length = M.length) : Con l i_L_stored [.ref 0, .int x1, .int x2, .int x3, .ref 27] M (.inl (some (.int (nI 2)), M1)) := by
  refine Con.ofJW (hh := [(0, 12, 15, 13), (0, 12, 19, 20)]) (by decide) rfl rfl rfl rfl (Nat.le_of_ble_eq_true rfl) ?_
  refine J.aload d_L_stored_0 rfl ?_
  refine J.iconst d_L_stored_2 (v := nI 0) (by decide) ?_
  refine J.aload_n d_L_stored_3 rfl rfl ?_
  refine J.iload_n d_L_stored_4 rfl rfl ?_
  refine J.iload_n d_L_stored_5 rfl rfl ?_
  refine J.iload_n d_L_stored_6 rfl rfl ?_
  refine J.caught (as := [.int x1, .int x2, .int x3]) (rest := [.int (nI 0), .ref 27]) (hp := 19) (w := 2) (i := 5) hC k_L_stored d_L_stored_7 h0 rfl rfl (Nat.le_of_ble_eq_true rfl) ⟨by decide, by decide⟩ (Or.inr ⟨⟨0, 12, 15, 13⟩, ⟨0, 12, 19, 20⟩, _, _, rfl, ⟨by decide, by decide, cl_L_13, by decide⟩, by decide, by decide, rfl, cl_L_20⟩) hlen (by decide) (Or.inr ⟨d_L_stored_19, rfl⟩) ?_
  refine J.iconst d_L_stored_21 (v := nI 2) (by decide) ?_
  exact J.ireturn d_L_stored_22 rfl (by decide) (by decide)
def i_L_where : MI := (y_L_where, NL, "where", c_L_where, [Cond.codeWith y_L_where c_L_where 6 (some .int) [(0, 12, 15, 20), (0, 12, 19, 28)]], 6, (some .int), { frames := 8, cells := 2, slots := 12, locals := 129 }, (2, 12), tableOf [(0, 12, 15, 20), (0, 12, 19, 28)], none)
theorem ml_L_47 : Cond.methodLink NL 47 y_V_where ∈ lw_tbl := by decide +kernel
theorem im9_V_where : Cond.instanceMethod y_V_where ∈ lw_tbl := by decide +kernel
theorem se9_V_where : Cond.selects NV y_V_where y_V_where ∈ lw_tbl := by decide +kernel
theorem k_L_where : CallV i_L_where i_V_where NV 47 3 := ⟨⟨⟨rfl, Or.inl rfl⟩, rfl, by decide, by decide, rfl, cb_V_where, in_V, ⟨by decide, by decide⟩, by decide +kernel⟩, ml_L_47, im9_V_where, se9_V_where⟩
theorem cw_L_where : Cond.codeWith y_L_where c_L_where 6 (some .int) [(0, 12, 15, 20), (0, 12, 19, 28)] ∈ lw_tbl := by decide +kernel
theorem st_L_where : Cond.static y_L_where ∈ lw_tbl := by decide +kernel
theorem hz_L_where {x1 x2 x3 a : Int32} {f : Nat → Int64} {fs : List Value} (hC : Con l i_V_where [.ref 0, .int x1, .int x2, .int x3] M (.inl (some (.int a), M1))) (h0 : M[0]? = some (.inr (0, fs))) (hlen : M1.length = M.length) (h27 : M1[27]? = some (lc f)) :
    Con l i_L_where [.ref 0, .int x1, .int x2, .int x3, .ref 27] M (.inl (some (.int (nI 0)), M1.set 27 (lc (vp_updL f 0 a.toInt64)))) := by
  refine Con.ofJW (hh := [(0, 12, 15, 20), (0, 12, 19, 28)]) (by decide) rfl rfl rfl rfl (Nat.le_of_ble_eq_true rfl) ?_
  refine J.aload d_L_where_0 rfl ?_
  refine J.iconst d_L_where_2 (v := nI 0) (by decide) ?_
  refine J.aload_n d_L_where_3 rfl rfl ?_
  refine J.iload_n d_L_where_4 rfl rfl ?_
  refine J.iload_n d_L_where_5 rfl rfl ?_
  refine J.iload_n d_L_where_6 rfl rfl ?_
  refine J.v3i hC k_L_where d_L_where_7 h0 rfl hlen ?_
  refine J.i2l d_L_where_10 ?_
  refine J.lastoreR d_L_where_11 h27 (vp_in_nI (by decide) (by decide)) ?_
  refine J.goto d_L_where_12 (tgt := 23) (by decide) ?_
  refine J.iconst d_L_where_23 (v := nI 0) (by decide) ?_
  exact J.ireturn d_L_where_24 rfl (by decide) (by decide)
theorem h1_L_where {x1 x2 x3 : Int32} {fs : List Value} (hC : Con l i_V_where [.ref 0, .int x1, .int x2, .int x3] M (.inr ("java/util/NoSuchElementException", M1))) (h0 : M[0]? = some (.inr (0, fs))) (hlen : M1.length = M.length) : Con l i_L_where [.ref 0, .int x1, .int x2, .int x3, .ref 27] M (.inl (some (.int (nI 1)), M1)) := by
  refine Con.ofJW (hh := [(0, 12, 15, 20), (0, 12, 19, 28)]) (by decide) rfl rfl rfl rfl (Nat.le_of_ble_eq_true rfl) ?_
  refine J.aload d_L_where_0 rfl ?_
  refine J.iconst d_L_where_2 (v := nI 0) (by decide) ?_
  refine J.aload_n d_L_where_3 rfl rfl ?_
  refine J.iload_n d_L_where_4 rfl rfl ?_
  refine J.iload_n d_L_where_5 rfl rfl ?_
  refine J.iload_n d_L_where_6 rfl rfl ?_
  refine J.caught (as := [.int x1, .int x2, .int x3]) (rest := [.int (nI 0), .ref 27]) (hp := 15) (w := 2) (i := 5) hC k_L_where d_L_where_7 h0 rfl rfl (Nat.le_of_ble_eq_true rfl) ⟨by decide, by decide⟩ (Or.inl ⟨⟨0, 12, 15, 20⟩, _, rfl, by decide, by decide, rfl, cl_L_20⟩) hlen (by decide) (Or.inr ⟨d_L_where_15, rfl⟩) ?_
  refine J.iconst d_L_where_17 (v := nI 1) (by decide) ?_
  exact J.ireturn d_L_where_18 rfl (by decide) (by decide)
theorem h2_L_where {x1 x2 x3 : Int32} {fs : List Value} (hC : Con l i_V_where [.ref 0, .int x1, .int x2, .int x3] M (.inr ("java/lang/IndexOutOfBoundsException", M1))) (h0 : M[0]? = some (.inr (0, fs))) (hlen : M1.length = M.length) : Con l i_L_where [.ref 0, .int x1, .int x2, .int x3, .ref 27] M (.inl (some (.int (nI 2)), M1)) := by
  refine Con.ofJW (hh := [(0, 12, 15, 20), (0, 12, 19, 28)]) (by decide) rfl rfl rfl rfl (Nat.le_of_ble_eq_true rfl) ?_
  refine J.aload d_L_where_0 rfl ?_
  refine J.iconst d_L_where_2 (v := nI 0) (by decide) ?_
  refine J.aload_n d_L_where_3 rfl rfl ?_
  refine J.iload_n d_L_where_4 rfl rfl ?_
  refine J.iload_n d_L_where_5 rfl rfl ?_
  refine J.iload_n d_L_where_6 rfl rfl ?_
  refine J.caught (as := [.int x1, .int x2, .int x3]) (rest := [.int (nI 0), .ref 27]) (hp := 19) (w := 2) (i := 5) hC k_L_where d_L_where_7 h0 rfl rfl (Nat.le_of_ble_eq_true rfl) ⟨by decide, by decide⟩ (Or.inr ⟨⟨0, 12, 15, 20⟩, ⟨0, 12, 19, 28⟩, _, _, rfl, ⟨by decide, by decide, cl_L_20, by decide⟩, by decide, by decide, rfl, cl_L_28⟩) hlen (by decide) (Or.inr ⟨d_L_where_19, rfl⟩) ?_
  refine J.iconst d_L_where_21 (v := nI 2) (by decide) ?_
  exact J.ireturn d_L_where_22 rfl (by decide) (by decide)
def i_L_product : MI := (y_L_product, NL, "product", c_L_product, [Cond.codeWith y_L_product c_L_product 5 (some .int) [(0, 10, 13, 13), (0, 10, 17, 54)]], 5, (some .int), { frames := 7, cells := 2, slots := 12, locals := 107 }, (2, 12), tableOf [(0, 10, 13, 13), (0, 10, 17, 54)], none)
theorem ml_L_50 : Cond.methodLink NL 50 y_V_product ∈ lw_tbl := by decide +kernel
theorem im9_V_product : Cond.instanceMethod y_V_product ∈ lw_tbl := by decide +kernel
theorem se9_V_product : Cond.selects NV y_V_product y_V_product ∈ lw_tbl := by decide +kernel
theorem k_L_product : CallV i_L_product i_V_product NV 50 2 := ⟨⟨⟨rfl, Or.inl rfl⟩, rfl, by decide, by decide, rfl, cb_V_product, in_V, ⟨by decide, by decide⟩, by decide +kernel⟩, ml_L_50, im9_V_product, se9_V_product⟩
theorem cw_L_product : Cond.codeWith y_L_product c_L_product 5 (some .int) [(0, 10, 13, 13), (0, 10, 17, 54)] ∈ lw_tbl := by decide +kernel
theorem st_L_product : Cond.static y_L_product ∈ lw_tbl := by decide +kernel
theorem hz_L_product {x1 x2 a : Int32} {f : Nat → Int64} {fs : List Value} (hC : Con l i_V_product [.ref 0, .int x1, .int x2] M (.inl (some (.int a), M1))) (h0 : M[0]? = some (.inr (0, fs))) (hlen : M1.length = M.length) (h27 : M1[27]? = some (lc f)) :
    Con l i_L_product [.ref 0, .int x1, .int x2, .ref 27] M (.inl (some (.int (nI 0)), M1.set 27 (lc (vp_updL f 0 a.toInt64)))) := by
  refine Con.ofJW (hh := [(0, 10, 13, 13), (0, 10, 17, 54)]) (by decide) rfl rfl rfl rfl (Nat.le_of_ble_eq_true rfl) ?_
  refine J.aload_n d_L_product_0 rfl rfl ?_
  refine J.iconst d_L_product_1 (v := nI 0) (by decide) ?_
  refine J.aload_n d_L_product_2 rfl rfl ?_
  refine J.iload_n d_L_product_3 rfl rfl ?_
  refine J.iload_n d_L_product_4 rfl rfl ?_
  refine J.v2i hC k_L_product d_L_product_5 h0 rfl hlen ?_
  refine J.i2l d_L_product_8 ?_
  refine J.lastoreR d_L_product_9 h27 (vp_in_nI (by decide) (by decide)) ?_
  refine J.goto d_L_product_10 (tgt := 21) (by decide) ?_
  refine J.iconst d_L_product_21 (v := nI 0) (by decide) ?_
  exact J.ireturn d_L_product_22 rfl (by decide) (by decide)
theorem h1_L_product {x1 x2 : Int32} {fs : List Value} (hC : Con l i_V_product [.ref 0, .int x1, .int x2] M (.inr ("java/lang/IllegalArgumentException", M1))) (h0 : M[0]? = some (.inr (0, fs))) (hlen : M1.length = M.length) : Con l i_L_product [.ref 0, .int x1, .int x2, .ref 27] M (.inl (some (.int (nI 1)), M1)) := by
  refine Con.ofJW (hh := [(0, 10, 13, 13), (0, 10, 17, 54)]) (by decide) rfl rfl rfl rfl (Nat.le_of_ble_eq_true rfl) ?_
  refine J.aload_n d_L_product_0 rfl rfl ?_
  refine J.iconst d_L_product_1 (v := nI 0) (by decide) ?_
  refine J.aload_n d_L_product_2 rfl rfl ?_
  refine J.iload_n d_L_product_3 rfl rfl ?_
  refine J.iload_n d_L_product_4 rfl rfl ?_
  refine J.caught (as := [.int x1, .int x2]) (rest := [.int (nI 0), .ref 27]) (hp := 13) (w := 2) (i := 4) hC k_L_product d_L_product_5 h0 rfl rfl (Nat.le_of_ble_eq_true rfl) ⟨by decide, by decide⟩ (Or.inl ⟨⟨0, 10, 13, 13⟩, _, rfl, by decide, by decide, rfl, cl_L_13⟩) hlen (by decide) (Or.inr ⟨d_L_product_13, rfl⟩) ?_
  refine J.iconst d_L_product_15 (v := nI 1) (by decide) ?_
  exact J.ireturn d_L_product_16 rfl (by decide) (by decide)
theorem h2_L_product {x1 x2 : Int32} {fs : List Value} (hC : Con l i_V_product [.ref 0, .int x1, .int x2] M (.inr ("java/lang/ArithmeticException", M1))) (h0 : M[0]? = some (.inr (0, fs))) (hlen : M1.length = M.length) : Con l i_L_product [.ref 0, .int x1, .int x2, .ref 27] M (.inl (some (.int (nI 2)), M1)) := by
  refine Con.ofJW (hh := [(0, 10, 13, 13), (0, 10, 17, 54)]) (by decide) rfl rfl rfl rfl (Nat.le_of_ble_eq_true rfl) ?_
  refine J.aload_n d_L_product_0 rfl rfl ?_
  refine J.iconst d_L_product_1 (v := nI 0) (by decide) ?_
  refine J.aload_n d_L_product_2 rfl rfl ?_
  refine J.iload_n d_L_product_3 rfl rfl ?_
  refine J.iload_n d_L_product_4 rfl rfl ?_
  refine J.caught (as := [.int x1, .int x2]) (rest := [.int (nI 0), .ref 27]) (hp := 17) (w := 2) (i := 4) hC k_L_product d_L_product_5 h0 rfl rfl (Nat.le_of_ble_eq_true rfl) ⟨by decide, by decide⟩ (Or.inr ⟨⟨0, 10, 13, 13⟩, ⟨0, 10, 17, 54⟩, _, _, rfl, ⟨by decide, by decide, cl_L_13, by decide⟩, by decide, by decide, rfl, cl_L_54⟩) hlen (by decide) (Or.inr ⟨d_L_product_17, rfl⟩) ?_
  refine J.iconst d_L_product_19 (v := nI 2) (by decide) ?_
  exact J.ireturn d_L_product_20 rfl (by decide) (by decide)
end HELP
