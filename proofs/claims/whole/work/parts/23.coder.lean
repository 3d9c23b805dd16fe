/-! The coder: inverses, a shard's bytes, lines -/
section CODER
variable {l : Launch} {K Mo dl ol : Nat} {dr ou da eq al fr tk by_ ln pl : Nat → Nat} {X : List va_E}
/-- a times n and a little lies below m times n -/
theorem mulb {a b m n : Nat} (h : a < m) (hb : b < n) : a * n + b < m * n := by
  have h1 : (a + 1) * n ≤ m * n := Nat.mul_le_mul_right n h
  rw [Nat.succ_mul] at h1; omega
theorem lp_V_inverse {a : Nat} (M : List va_E) : ∀ (j i s w : Nat), i + j = 8 → 0 < i → s < 256 → w < 256 →
    J l i_V_inverse 6 [(0, .int (nI a)), (1, .int (nI s)), (2, .int (nI w)), (3, .int (nI i))] [] M 0 0 (.inl (some (.int (nI (giL j s w))), M))
  | 0, i, s, w, hi, h0, hs, hw => by
    refine J.iload_n d_V_inverse_6 rfl rfl ?_
    refine J.bipush d_V_inverse_7 (v := nI 8) (by decide) ?_
    refine J.icmp_geN d_V_inverse_9 (tgt := 30) (by decide) (by omega) (by omega) (fun h => ?_) (fun h => ?_)
    · refine J.iload_n d_V_inverse_30 rfl rfl ?_
      exact J.ireturn d_V_inverse_31 rfl (by decide) (by decide)
    · omega
  | j + 1, i, s, w, hi, h0, hs, hw => by
    refine J.iload_n d_V_inverse_6 rfl rfl ?_
    refine J.bipush d_V_inverse_7 (v := nI 8) (by decide) ?_
    refine J.icmp_geN d_V_inverse_9 (tgt := 30) (by decide) (by omega) (by omega) (fun h => ?_) (fun h => ?_)
    · omega
    refine J.iload_n d_V_inverse_12 rfl rfl ?_
    refine J.iload_n d_V_inverse_13 rfl rfl ?_
    refine J.s2i (con_V_times hs hs M) k_V_inverse_V_times d_V_inverse_14 rfl ?_
    have hs2 := gm_lt (b := s) hs
    refine J.istore_n d_V_inverse_17 rfl (by decide) rfl ?_
    refine J.iload_n d_V_inverse_18 rfl rfl ?_
    refine J.iload_n d_V_inverse_19 rfl rfl ?_
    refine J.s2i (con_V_times hw hs2 M) k_V_inverse_V_times d_V_inverse_20 rfl ?_
    refine J.istore_n d_V_inverse_23 rfl (by decide) rfl ?_
    refine J.iincN d_V_inverse_24 rfl rfl (by decide) rfl ?_
    refine J.goto d_V_inverse_27 (tgt := 6) (by decide) ?_
    exact lp_V_inverse M j (i + 1) (gm s s) (gm w (gm s s)) (by omega) (by omega) hs2 (gm_lt hw)
theorem con_V_inverse {a : Nat} (ha : a < 256) (M : List va_E) : Con l i_V_inverse [.int (nI a)] M (.inl (some (.int (nI (gi a))), M)) := by
  refine Con.of ?_
  refine J.iload_n d_V_inverse_0 rfl rfl ?_
  refine J.istore_n d_V_inverse_1 rfl (by decide) rfl ?_
  refine J.iconst d_V_inverse_2 (v := nI 1) (by decide) ?_
  refine J.istore_n d_V_inverse_3 rfl (by decide) rfl ?_
  refine J.iconst d_V_inverse_4 (v := nI 1) (by decide) ?_
  refine J.istore_n d_V_inverse_5 rfl (by decide) rfl ?_
  exact lp_V_inverse M 7 1 a 1 (by omega) (by omega) ha (by omega)
/-- shard h's byte t: the sum of the first n data by h's factors -/
def wk (K : Nat) (da : Nat → Nat) (h t : Nat) : Nat → Nat
  | 0 => 0
  | n + 1 => wk K da h t n ^^^ gm (fac K (h * K + n)) (da (n * 4 + t))
theorem fac_lt (K i : Nat) : fac K i < 256 := by
  unfold fac
  split
  · split <;> decide
  · exact gi_lt _
theorem wk_lt {K : Nat} {da : Nat → Nat} {h t : Nat} : ∀ n, wk K da h t n < 256
  | 0 => Nat.zero_lt_succ _
  | n + 1 => xor_lt (wk_lt n) (gm_lt (fac_lt _ _))
/-- shard h's byte t as the class works it out -/
def sb (K : Nat) (da : Nat → Nat) (h t : Nat) : Nat := if h < K then da (h * 4 + t) else wk K da h t K
theorem lp_C_shardByte {h t : Nat} (hK : 0 < K) (hK4 : K ≤ 4) (hM : Mo ≤ 3) (hh : h < K + Mo) (ht : t < 4) (hda : ∀ i, da i < 256) : ∀ (j i : Nat), i + j = K →
    J l i_C_shardByte 24 [(0, .ref 1), (1, .int (nI h)), (2, .int (nI t)), (3, .int (nI (wk K da h t i))), (4, .int (nI i))] [] (CM K Mo dr dl ou ol da eq al fr tk by_ ln pl X) 0 0 (.inl (some (.int (nI (wk K da h t K))), (CM K Mo dr dl ou ol da eq al fr tk by_ ln pl X)))
  | 0, i, hi => by
    refine J.iload d_C_shardByte_24 rfl ?_
    refine J.aload_n d_C_shardByte_26 rfl rfl ?_
    refine J.getfield d_C_shardByte_27 fl_C_9 rfl rfl ?_
    refine J.icmp_geN d_C_shardByte_30 (tgt := 70) (by decide) (by omega) (by omega) (fun h => ?_) (fun h => ?_)
    · rw [show i = K by omega]
      refine J.iload_n d_C_shardByte_70 rfl rfl ?_
      exact J.ireturn d_C_shardByte_71 rfl (by decide) (by decide)
    · omega
  | j + 1, i, hi => by
    refine J.iload d_C_shardByte_24 rfl ?_
    refine J.aload_n d_C_shardByte_26 rfl rfl ?_
    refine J.getfield d_C_shardByte_27 fl_C_9 rfl rfl ?_
    refine J.icmp_geN d_C_shardByte_30 (tgt := 70) (by decide) (by omega) (by omega) (fun h => ?_) (fun h => ?_)
    · omega
    have hx := mulb hh (show i < K by omega)
    have hx4 : (K + Mo) * K ≤ 7 * 4 := Nat.mul_le_mul (by omega) hK4
    refine J.iload_n d_C_shardByte_33 rfl rfl ?_
    refine J.aload_n d_C_shardByte_34 rfl rfl ?_
    refine J.getfield d_C_shardByte_35 fl_C_28 rfl rfl ?_
    refine J.iload_n d_C_shardByte_38 rfl rfl ?_
    refine J.aload_n d_C_shardByte_39 rfl rfl ?_
    refine J.getfield d_C_shardByte_40 fl_C_9 rfl rfl ?_
    refine J.imulN d_C_shardByte_43 ?_
    refine J.iload d_C_shardByte_44 rfl ?_
    refine J.iaddN d_C_shardByte_46 ?_
    refine J.ialoadN d_C_shardByte_47 rfl (by omega) (by omega) ?_
    refine J.aload_n d_C_shardByte_48 rfl rfl ?_
    refine J.getfield d_C_shardByte_49 fl_C_21 rfl rfl ?_
    refine J.iload d_C_shardByte_52 rfl ?_
    refine J.iconst d_C_shardByte_54 (v := nI 4) (by decide) ?_
    refine J.imulN d_C_shardByte_55 ?_
    refine J.iload_n d_C_shardByte_56 rfl rfl ?_
    refine J.iaddN d_C_shardByte_57 ?_
    refine J.ialoadN d_C_shardByte_58 rfl (by omega) (by omega) ?_
    refine J.n2i (con_V_times (fac_lt K _) (hda _) _) k_C_shardByte_V_times d_C_shardByte_59 rfl ?_
    refine J.ixorN d_C_shardByte_62 ?_
    refine J.istore_n d_C_shardByte_63 rfl (by decide) rfl ?_
    refine J.iincN d_C_shardByte_64 rfl rfl (by decide) rfl ?_
    refine J.goto d_C_shardByte_67 (tgt := 24) (by decide) ?_
    exact lp_C_shardByte hK hK4 hM hh ht hda j (i + 1) (by omega)
theorem con_C_shardByte {h t : Nat} (hK : 0 < K) (hK4 : K ≤ 4) (hM : Mo ≤ 3) (hh : h < K + Mo) (ht : t < 4) (hda : ∀ i, da i < 256) : Con l i_C_shardByte [.ref 1, .int (nI h), .int (nI t)] (CM K Mo dr dl ou ol da eq al fr tk by_ ln pl X) (.inl (some (.int (nI (sb K da h t))), (CM K Mo dr dl ou ol da eq al fr tk by_ ln pl X))) := by
  refine Con.of ?_
  refine J.iload_n d_C_shardByte_0 rfl rfl ?_
  refine J.aload_n d_C_shardByte_1 rfl rfl ?_
  refine J.getfield d_C_shardByte_2 fl_C_9 rfl rfl ?_
  refine J.icmp_geN d_C_shardByte_5 (tgt := 19) (by decide) (by omega) (by omega) (fun h1 => ?_) (fun h1 => ?_)
  · rw [show sb K da h t = wk K da h t K by unfold sb; rw [if_neg (by omega)]]
    refine J.iconst d_C_shardByte_19 (v := nI 0) (by decide) ?_
    refine J.istore_n d_C_shardByte_20 rfl (by decide) rfl ?_
    refine J.iconst d_C_shardByte_21 (v := nI 0) (by decide) ?_
    refine J.istore d_C_shardByte_22 (by decide) rfl ?_
    exact lp_C_shardByte hK hK4 hM hh ht hda K 0 (by omega)
  · rw [show sb K da h t = da (h * 4 + t) by unfold sb; rw [if_pos (by omega)]]
    refine J.aload_n d_C_shardByte_8 rfl rfl ?_
    refine J.getfield d_C_shardByte_9 fl_C_21 rfl rfl ?_
    refine J.iload_n d_C_shardByte_12 rfl rfl ?_
    refine J.iconst d_C_shardByte_13 (v := nI 4) (by decide) ?_
    refine J.imulN d_C_shardByte_14 ?_
    refine J.iload_n d_C_shardByte_15 rfl rfl ?_
    refine J.iaddN d_C_shardByte_16 ?_
    refine J.ialoadN d_C_shardByte_17 rfl (by omega) (by omega) ?_
    exact J.ireturn d_C_shardByte_18 rfl (by decide) (by decide)
theorem cp_C : Cond.methodLink NC 43 arraycopyName ∈ lw_tbl := by decide +kernel
theorem con_C_setEquation {line h : Nat} (hK : 0 < K) (hK4 : K ≤ 4) (hM : Mo ≤ 3) (hh : h < K + Mo) (hl : line < K) : Con l i_C_setEquation [.ref 1, .int (nI line), .int (nI h)] (CM K Mo dr dl ou ol da eq al fr tk by_ ln pl X) (.inl (none, (CM K Mo dr dl ou ol da (va_cpy (fac K) eq (h * K) (line * K) K) al fr tk by_ ln pl X))) := by
  have h1 := mulb (n := K) hh (show K - 1 < K by omega)
  have h2 := mulb (n := K) hl (show K - 1 < K by omega)
  have hx4 : (K + Mo) * K ≤ 7 * 4 := Nat.mul_le_mul (by omega) hK4
  have hy4 : K * K ≤ 4 * 4 := Nat.mul_le_mul hK4 hK4
  refine Con.of ?_
  refine J.aload_n d_C_setEquation_0 rfl rfl ?_
  refine J.getfield d_C_setEquation_1 fl_C_28 rfl rfl ?_
  refine J.iload_n d_C_setEquation_4 rfl rfl ?_
  refine J.aload_n d_C_setEquation_5 rfl rfl ?_
  refine J.getfield d_C_setEquation_6 fl_C_9 rfl rfl ?_
  refine J.imulN d_C_setEquation_9 ?_
  refine J.aload_n d_C_setEquation_10 rfl rfl ?_
  refine J.getfield d_C_setEquation_11 fl_C_25 rfl rfl ?_
  refine J.iload_n d_C_setEquation_14 rfl rfl ?_
  refine J.aload_n d_C_setEquation_15 rfl rfl ?_
  refine J.getfield d_C_setEquation_16 fl_C_9 rfl rfl ?_
  refine J.imulN d_C_setEquation_19 ?_
  refine J.aload_n d_C_setEquation_20 rfl rfl ?_
  refine J.getfield d_C_setEquation_21 fl_C_9 rfl rfl ?_
  refine J.copyN d_C_setEquation_24 cp_C cp_n cp_s cp_i rfl rfl (by omega) (by omega) (by omega) (by omega) (by decide) (by decide) ?_
  exact J.vreturn d_C_setEquation_27 rfl (by decide) (by decide)
end CODER
