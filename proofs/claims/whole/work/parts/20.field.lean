/-! The class's and the reference's arithmetic -/
section FIELD
variable {l : Launch}
theorem and1 (x : Nat) : x &&& 1 = x % 2 := Nat.and_one_is_mod x
theorem div2p (b i : Nat) : b / 2 ^ i / 2 = b / 2 ^ (i + 1) := by rw [Nat.div_div_eq_div_mul, Nat.pow_succ]
theorem div2l {b i : Nat} (h : b < 256) : b / 2 ^ i < 256 := Nat.lt_of_le_of_lt (Nat.div_le_self _ _) h
set_option maxRecDepth 100000 in
set_option maxHeartbeats 4000000 in
theorem lp_V_times (a b : Nat) (hb : b < 256) (M : List va_E) : ∀ (j i s d : Nat), i + j = 8 → s < 256 → d < 256 →
    J l i_V_times 7 [(0, .int (nI a)), (1, .int (nI b)), (2, .int (nI s)), (3, .int (nI d)), (4, .int (nI i))] [] M 0 0 (.inl (some (.int (nI (gL j (b / 2 ^ i) s d))), M))
  | 0, i, s, d, hi, hs, hd => by
    refine J.iload d_V_times_7 rfl ?_
    refine J.bipush d_V_times_9 (v := nI 8) (by decide) ?_
    refine J.icmp_geN d_V_times_11 (tgt := 51) (by decide) (by omega) (by omega) (fun h => ?_) (fun h => ?_)
    · refine J.iload_n d_V_times_51 rfl rfl ?_
      exact J.ireturn d_V_times_52 rfl (by decide) (by decide)
    · omega
  | j + 1, i, s, d, hi, hs, hd => by
    refine J.iload d_V_times_7 rfl ?_
    refine J.bipush d_V_times_9 (v := nI 8) (by decide) ?_
    refine J.icmp_geN d_V_times_11 (tgt := 51) (by decide) (by omega) (by omega) (fun h => ?_) (fun h => ?_)
    · omega
    have hx := div2l (i := i) hb
    have back : ∀ s', s' < 256 → s' = (if b / 2 ^ i % 2 = 1 then s ^^^ d else s) → J l i_V_times 28 [(0, .int (nI a)), (1, .int (nI b)), (2, .int (nI s')), (3, .int (nI d)), (4, .int (nI i))] [] M 0 0 (.inl (some (.int (nI (gL (j + 1) (b / 2 ^ i) s d))), M)) := by
      intro s' hs' e'
      unfold gL
      rw [← e', div2p]
      have hg := gd_lt hd
      refine J.iload_n d_V_times_28 rfl rfl ?_
      refine J.iconst d_V_times_29 (v := nI 2) (by decide) ?_
      refine J.imulN d_V_times_30 ?_
      refine J.istore_n d_V_times_31 rfl (by decide) rfl ?_
      refine J.iload_n d_V_times_32 rfl rfl ?_
      refine J.sipush d_V_times_33 (v := nI 256) (by decide) ?_
      refine J.icmp_ltN d_V_times_36 (tgt := 45) (by decide) (by omega) (by omega) (fun h2 => ?_) (fun h2 => ?_)
      · have e2 : gd d = d * 2 := by unfold gd; rw [if_neg (by omega)]; omega
        rw [e2] at hg ⊢
        refine J.iincN d_V_times_45 rfl rfl (by decide) rfl ?_
        refine J.goto d_V_times_48 (tgt := 7) (by decide) ?_
        exact lp_V_times a b hb M j (i + 1) s' (d * 2) (by omega) hs' hg
      · have e2 : gd d = (d * 2) ^^^ 285 := by unfold gd; rw [if_pos (by omega), Nat.mul_comm]
        rw [e2] at hg ⊢
        refine J.iload_n d_V_times_39 rfl rfl ?_
        refine J.sipush d_V_times_40 (v := nI 285) (by decide) ?_
        refine J.ixorN d_V_times_43 ?_
        refine J.istore_n d_V_times_44 rfl (by decide) rfl ?_
        refine J.iincN d_V_times_45 rfl rfl (by decide) rfl ?_
        refine J.goto d_V_times_48 (tgt := 7) (by decide) ?_
        exact lp_V_times a b hb M j (i + 1) s' ((d * 2) ^^^ 285) (by omega) hs' hg
    refine J.iload_n d_V_times_14 rfl rfl ?_
    refine J.iload d_V_times_15 rfl ?_
    refine J.ishrN d_V_times_17 (by omega) (by omega) ?_
    refine J.iconst d_V_times_18 (v := nI 1) (by decide) ?_
    refine J.iandN d_V_times_19 ?_
    rw [and1]
    refine J.iconst d_V_times_20 (v := nI 1) (by decide) ?_
    refine J.icmp_neN d_V_times_21 (tgt := 28) (by decide) (by omega) (by omega) (fun h1 => ?_) (fun h1 => ?_)
    · exact back s hs (by rw [if_neg h1])
    · refine J.iload_n d_V_times_24 rfl rfl ?_
      refine J.iload_n d_V_times_25 rfl rfl ?_
      refine J.ixorN d_V_times_26 ?_
      refine J.istore_n d_V_times_27 rfl (by decide) rfl ?_
      exact back (s ^^^ d) (xor_lt hs hd) (by rw [if_pos h1])
theorem con_V_times {a b : Nat} (ha : a < 256) (hb : b < 256) (M : List va_E) : Con l i_V_times [.int (nI a), .int (nI b)] M (.inl (some (.int (nI (gm a b))), M)) := by
  refine Con.ofJ (by decide) rfl rfl rfl rfl (Nat.le_of_ble_eq_true rfl) ?_
  show J l i_V_times 0 [(0, .int (nI a)), (1, .int (nI b))] [] M 0 0 _
  refine J.iconst d_V_times_0 (v := nI 0) (by decide) ?_
  refine J.istore_n d_V_times_1 rfl (by decide) rfl ?_
  refine J.iload_n d_V_times_2 rfl rfl ?_
  refine J.istore_n d_V_times_3 rfl (by decide) rfl ?_
  refine J.iconst d_V_times_4 (v := nI 0) (by decide) ?_
  refine J.istore d_V_times_5 (by decide) rfl ?_
  have := lp_V_times (l := l) a b hb M 8 0 0 a rfl (by decide) ha
  rw [Nat.pow_zero, Nat.div_one] at this
  exact this
end FIELD
