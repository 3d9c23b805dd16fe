/-! The reference's memory, behind fifteen cells; its arithmetic and small methods -/
def fc4 (K Mo : Nat) (i : Nat) : Nat := if i / 4 < K + Mo ∧ i % 4 < K then fac K (i / 4 * K + i % 4) else 0
def RM (P : Nat → va_E) (K Mo co : Nat) (dr : Nat → Nat) (sz : Nat) (al us by_ ln pl : Nat → Nat) (os : Nat) (ou rd sp rw : Nat → Nat) (Y : List va_E) : List va_E :=
  P 0 :: P 1 :: P 2 :: P 3 :: P 4 :: P 5 :: P 6 :: P 7 :: P 8 :: P 9 :: P 10 :: P 11 :: P 12 :: P 13 :: P 14 ::
  .inr (4, [.int (nI K), .int (nI Mo), .int (nI co), .ref 16, .int (nI sz), .ref 17, .ref 18, .ref 19, .ref 20, .ref 21, .ref 22, .int (nI os), .ref 23, .ref 24, .ref 25, .ref 26]) ::
  aI 32 dr :: aZ 8 al :: aZ 80 us :: aI 320 by_ :: aI 6 ln :: aP 336 pl :: aI 28 (fc4 K Mo) :: aI 32 ou :: aI 32 rd :: aI 16 sp :: aI 20 rw :: Y
section REF
variable {l : Launch} {P : Nat → va_E} {K Mo co sz os : Nat} {dr al us by_ ln pl ou rd sp rw : Nat → Nat} {Y : List va_E}
theorem lp_R_times (a b : Nat) (hb : b < 256) (M : List va_E) : ∀ (j i s d : Nat), i + j = 8 → s < 256 → d < 256 →
    J l i_R_times 7 [(0, .int (nI a)), (1, .int (nI b)), (2, .int (nI s)), (3, .int (nI d)), (4, .int (nI i))] [] M 0 0 (.inl (some (.int (nI (gL j (b / 2 ^ i) s d))), M))
  | 0, i, s, d, hi, hs, hd => by
    refine J.iload d_R_times_7 rfl ?_
    refine J.bipush d_R_times_9 (v := nI 8) (by decide) ?_
    refine J.icmp_geN d_R_times_11 (tgt := 59) (by decide) (by omega) (by omega) (fun h => ?_) (fun h => ?_)
    · refine J.iload_n d_R_times_59 rfl rfl ?_
      exact J.ireturn d_R_times_60 rfl (by decide) (by decide)
    · omega
  | j + 1, i, s, d, hi, hs, hd => by
    refine J.iload d_R_times_7 rfl ?_
    refine J.bipush d_R_times_9 (v := nI 8) (by decide) ?_
    refine J.icmp_geN d_R_times_11 (tgt := 59) (by decide) (by omega) (by omega) (fun h => ?_) (fun h => ?_)
    · omega
    have hx := div2l (i := i) hb
    have back : ∀ s', s' < 256 → s' = (if b / 2 ^ i % 2 = 1 then s ^^^ d else s) → J l i_R_times 31 [(0, .int (nI a)), (1, .int (nI b)), (2, .int (nI s)), (3, .int (nI d)), (4, .int (nI i))] [.int (nI s')] M 0 0 (.inl (some (.int (nI (gL (j + 1) (b / 2 ^ i) s d))), M)) := by
      intro s' hs' e'
      unfold gL
      rw [← e', div2p]
      have hg := gd_lt hd
      refine J.istore_n d_R_times_31 rfl (by decide) rfl ?_
      refine J.iconst d_R_times_32 (v := nI 2) (by decide) ?_
      refine J.iload_n d_R_times_33 rfl rfl ?_
      refine J.imulN d_R_times_34 ?_
      refine J.istore_n d_R_times_35 rfl (by decide) rfl ?_
      refine J.iload_n d_R_times_36 rfl rfl ?_
      refine J.sipush d_R_times_37 (v := nI 255) (by decide) ?_
      refine J.icmp_leN d_R_times_40 (tgt := 51) (by decide) (by omega) (by omega) (fun h2 => ?_) (fun h2 => ?_)
      · have e2 : gd d = 2 * d := by unfold gd; rw [if_neg (by omega)]
        rw [e2] at hg ⊢
        refine J.iload_n d_R_times_51 rfl rfl ?_
        refine J.istore_n d_R_times_52 rfl (by decide) rfl ?_
        refine J.iincN d_R_times_53 rfl rfl (by decide) rfl ?_
        refine J.goto d_R_times_56 (tgt := 7) (by decide) ?_
        exact lp_R_times a b hb M j (i + 1) s' (2 * d) (by omega) hs' hg
      · have e2 : gd d = (2 * d) ^^^ 285 := by unfold gd; rw [if_pos (by omega)]
        rw [e2] at hg ⊢
        refine J.iload_n d_R_times_43 rfl rfl ?_
        refine J.sipush d_R_times_44 (v := nI 285) (by decide) ?_
        refine J.ixorN d_R_times_47 ?_
        refine J.goto d_R_times_48 (tgt := 52) (by decide) ?_
        refine J.istore_n d_R_times_52 rfl (by decide) rfl ?_
        refine J.iincN d_R_times_53 rfl rfl (by decide) rfl ?_
        refine J.goto d_R_times_56 (tgt := 7) (by decide) ?_
        exact lp_R_times a b hb M j (i + 1) s' ((2 * d) ^^^ 285) (by omega) hs' hg
    refine J.iload_n d_R_times_14 rfl rfl ?_
    refine J.iload d_R_times_15 rfl ?_
    refine J.ishrN d_R_times_17 (by omega) (by omega) ?_
    refine J.iconst d_R_times_18 (v := nI 1) (by decide) ?_
    refine J.iandN d_R_times_19 ?_
    rw [and1]
    refine J.iconst d_R_times_20 (v := nI 1) (by decide) ?_
    refine J.icmp_neN d_R_times_21 (tgt := 30) (by decide) (by omega) (by omega) (fun h1 => ?_) (fun h1 => ?_)
    · refine J.iload_n d_R_times_30 rfl rfl ?_
      exact back s hs (by rw [if_neg h1])
    · refine J.iload_n d_R_times_24 rfl rfl ?_
      refine J.iload_n d_R_times_25 rfl rfl ?_
      refine J.ixorN d_R_times_26 ?_
      refine J.goto d_R_times_27 (tgt := 31) (by decide) ?_
      exact back (s ^^^ d) (xor_lt hs hd) (by rw [if_pos h1])
theorem con_R_times {a b : Nat} (ha : a < 256) (hb : b < 256) (M : List va_E) : Con l i_R_times [.int (nI a), .int (nI b)] M (.inl (some (.int (nI (gm a b))), M)) := by
  refine Con.of ?_
  refine J.iconst d_R_times_0 (v := nI 0) (by decide) ?_
  refine J.istore_n d_R_times_1 rfl (by decide) rfl ?_
  refine J.iload_n d_R_times_2 rfl rfl ?_
  refine J.istore_n d_R_times_3 rfl (by decide) rfl ?_
  refine J.iconst d_R_times_4 (v := nI 0) (by decide) ?_
  refine J.istore d_R_times_5 (by decide) rfl ?_
  have := lp_R_times (l := l) a b hb M 8 0 0 a rfl (by decide) ha
  rw [Nat.pow_zero, Nat.div_one] at this
  exact this
theorem lp_R_inverse {a : Nat} (h0 : 0 < a) (ha : a < 256) (M : List va_E) : ∀ (j i : Nat), i + j = gi a →
    J l i_R_inverse 2 [(0, .int (nI a)), (1, .int (nI i))] [] M 0 0 (.inl (some (.int (nI (gi a))), M))
  | 0, i, hi => by
    have h1 := gi_one h0 ha
    have h2 := gi_lt a
    have hi' : i = gi a := by omega
    rw [hi']
    refine J.iload_n d_R_inverse_2 rfl rfl ?_
    refine J.iload_n d_R_inverse_3 rfl rfl ?_
    refine J.s2i (con_R_times ha h2 M) k_R_inverse_R_times d_R_inverse_4 rfl ?_
    rw [h1.1]
    refine J.iconst d_R_inverse_7 (v := nI 1) (by decide) ?_
    refine J.icmp_eqN d_R_inverse_8 (tgt := 17) (by decide) (by omega) (by omega) (fun h => ?_) (fun h => ?_)
    · refine J.iload_n d_R_inverse_17 rfl rfl ?_
      exact J.ireturn d_R_inverse_18 rfl (by decide) (by decide)
    · exact absurd rfl h
  | j + 1, i, hi => by
    have h2 := gi_lt a
    have hm := gm_lt (b := i) ha
    have h3 := gi_least (x := i) ha (by omega)
    refine J.iload_n d_R_inverse_2 rfl rfl ?_
    refine J.iload_n d_R_inverse_3 rfl rfl ?_
    refine J.s2i (con_R_times ha (by omega) M) k_R_inverse_R_times d_R_inverse_4 rfl ?_
    refine J.iconst d_R_inverse_7 (v := nI 1) (by decide) ?_
    refine J.icmp_eqN d_R_inverse_8 (tgt := 17) (by decide) (by omega) (by omega) (fun h => ?_) (fun h => ?_)
    · exact absurd h h3
    · refine J.iincN d_R_inverse_11 rfl rfl (by decide) rfl ?_
      refine J.goto d_R_inverse_14 (tgt := 2) (by decide) ?_
      exact lp_R_inverse h0 ha M j (i + 1) (by omega)
theorem con_R_inverse {a : Nat} (h0 : 0 < a) (ha : a < 256) (M : List va_E) : Con l i_R_inverse [.int (nI a)] M (.inl (some (.int (nI (gi a))), M)) := by
  have h1 := gi_one h0 ha
  refine Con.of ?_
  refine J.iconst d_R_inverse_0 (v := nI 1) (by decide) ?_
  refine J.istore_n d_R_inverse_1 rfl (by decide) rfl ?_
  exact lp_R_inverse h0 ha M (gi a - 1) 1 (by omega)
theorem fc4_at {K Mo h j : Nat} (hh : h < K + Mo) (hj : j < K) (hK4 : K ≤ 4) : fc4 K Mo (4 * h + j) = fac K (h * K + j) := by
  have h1 : (4 * h + j) / 4 = h := by omega
  have h2 : (4 * h + j) % 4 = j := by omega
  simp [fc4, h1, h2, hh, hj]
theorem con_R_factor {h j : Nat} (hh : h < K + Mo) (hj : j < K) (hK4 : K ≤ 4) (hS : K + Mo ≤ 7) : Con l i_R_factor [.ref 15, .int (nI h), .int (nI j)] (RM P K Mo co dr sz al us by_ ln pl os ou rd sp rw Y) (.inl (some (.int (nI (fac K (h * K + j)))), (RM P K Mo co dr sz al us by_ ln pl os ou rd sp rw Y))) := by
  rw [← fc4_at hh hj hK4]
  refine Con.of ?_
  refine J.aload_n d_R_factor_0 rfl rfl ?_
  refine J.getfield d_R_factor_1 fl_R_29 rfl rfl ?_
  refine J.iconst d_R_factor_4 (v := nI 4) (by decide) ?_
  refine J.iload_n d_R_factor_5 rfl rfl ?_
  refine J.imulN d_R_factor_6 ?_
  refine J.iload_n d_R_factor_7 rfl rfl ?_
  refine J.iaddN d_R_factor_8 ?_
  refine J.ialoadN d_R_factor_9 rfl (by omega) (by omega) ?_
  exact J.ireturn d_R_factor_10 rfl (by decide) (by decide)
theorem con_R_shards : Con l i_R_shards [.ref 15] (RM P K Mo co dr sz al us by_ ln pl os ou rd sp rw Y) (.inl (some (.int (nI (K + Mo))), (RM P K Mo co dr sz al us by_ ln pl os ou rd sp rw Y))) := by
  refine Con.of ?_
  refine J.aload_n d_R_shards_0 rfl rfl ?_
  refine J.getfield d_R_shards_1 fl_R_44 rfl rfl ?_
  refine J.aload_n d_R_shards_4 rfl rfl ?_
  refine J.getfield d_R_shards_5 fl_R_48 rfl rfl ?_
  refine J.iaddN d_R_shards_8 ?_
  exact J.ireturn d_R_shards_9 rfl (by decide) (by decide)
theorem con_R_stripesOf {o : Nat} (ho : o < 6) (hK : 0 < K) (hK4 : K ≤ 4) (hl : ln o < 2 ^ 30) : Con l i_R_stripesOf [.ref 15, .int (nI o)] (RM P K Mo co dr sz al us by_ ln pl os ou rd sp rw Y) (.inl (some (.int (nI (ns K (ln o)))), (RM P K Mo co dr sz al us by_ ln pl os ou rd sp rw Y))) := by
  refine Con.of ?_
  refine J.aload_n d_R_stripesOf_0 rfl rfl ?_
  refine J.getfield d_R_stripesOf_1 fl_R_23 rfl rfl ?_
  refine J.iload_n d_R_stripesOf_4 rfl rfl ?_
  refine J.ialoadN d_R_stripesOf_5 rfl (by omega) (by omega) ?_
  refine J.iconst d_R_stripesOf_6 (v := nI 4) (by decide) ?_
  refine J.aload_n d_R_stripesOf_7 rfl rfl ?_
  refine J.getfield d_R_stripesOf_8 fl_R_44 rfl rfl ?_
  refine J.imulN d_R_stripesOf_11 ?_
  refine J.iaddN d_R_stripesOf_12 ?_
  refine J.iconst d_R_stripesOf_13 (v := nI 1) (by decide) ?_
  refine J.isubN d_R_stripesOf_14 (by omega) ?_
  refine J.iconst d_R_stripesOf_15 (v := nI 4) (by decide) ?_
  refine J.aload_n d_R_stripesOf_16 rfl rfl ?_
  refine J.getfield d_R_stripesOf_17 fl_R_44 rfl rfl ?_
  refine J.imulN d_R_stripesOf_20 ?_
  refine J.idivN d_R_stripesOf_21 (by omega) (by omega) (by omega) ?_
  exact J.ireturn d_R_stripesOf_22 rfl (by decide) (by decide)
theorem con_R_place {o s h : Nat} (ho : o < 6) (hs : s < 8) (hh : h < 7) : Con l i_R_place [.ref 15, .int (nI o), .int (nI s), .int (nI h)] (RM P K Mo co dr sz al us by_ ln pl os ou rd sp rw Y) (.inl (some (.int (pI (pl (56 * o + 7 * s + h)))), (RM P K Mo co dr sz al us by_ ln pl os ou rd sp rw Y))) := by
  refine Con.of ?_
  refine J.aload_n d_R_place_0 rfl rfl ?_
  refine J.getfield d_R_place_1 fl_R_26 rfl rfl ?_
  refine J.bipush d_R_place_4 (v := nI 56) (by decide) ?_
  refine J.iload_n d_R_place_6 rfl rfl ?_
  refine J.imulN d_R_place_7 ?_
  refine J.bipush d_R_place_8 (v := nI 7) (by decide) ?_
  refine J.iload_n d_R_place_10 rfl rfl ?_
  refine J.imulN d_R_place_11 ?_
  refine J.iaddN d_R_place_12 ?_
  refine J.iload_n d_R_place_13 rfl rfl ?_
  refine J.iaddN d_R_place_14 ?_
  refine J.ialoadP d_R_place_15 rfl (by omega) (by omega) ?_
  exact J.ireturn d_R_place_16 rfl (by decide) (by decide)
theorem lp_R_lost {o s : Nat} (ho : o < 6) (hs : s < 8) (hS : K + Mo ≤ 7) (hp : ∀ i, pl i ≤ 80) : ∀ (j i : Nat), i + j = K + Mo →
    J l i_R_lost 5 [(0, .ref 15), (1, .int (nI o)), (2, .int (nI s)), (3, .int (nI (nl pl o s i))), (4, .int (nI i))] [] (RM P K Mo co dr sz al us by_ ln pl os ou rd sp rw Y) 0 0 (.inl (some (.int (nI (nl pl o s (K + Mo)))), (RM P K Mo co dr sz al us by_ ln pl os ou rd sp rw Y)))
  | 0, i, hi => by
    refine J.iload d_R_lost_5 rfl ?_
    refine J.aload_n d_R_lost_7 rfl rfl ?_
    refine J.v0i con_R_shards k_R_lost_R_shards d_R_lost_8 rfl rfl rfl ?_
    refine J.icmp_geN d_R_lost_11 (tgt := 39) (by decide) (by omega) (by omega) (fun h => ?_) (fun h => ?_)
    · rw [show i = K + Mo by omega]
      refine J.iload_n d_R_lost_39 rfl rfl ?_
      exact J.ireturn d_R_lost_40 rfl (by decide) (by decide)
    · omega
  | j + 1, i, hi => by
    have hpi := hp (56 * o + 7 * s + i)
    have ih := lp_R_lost ho hs hS hp j (i + 1) (by omega)
    have e : nl pl o s (i + 1) = nl pl o s i + z1 (pl (56 * o + 7 * s + i)) := rfl
    rw [e] at ih
    refine J.iload d_R_lost_5 rfl ?_
    refine J.aload_n d_R_lost_7 rfl rfl ?_
    refine J.v0i con_R_shards k_R_lost_R_shards d_R_lost_8 rfl rfl rfl ?_
    refine J.icmp_geN d_R_lost_11 (tgt := 39) (by decide) (by omega) (by omega) (fun h => ?_) (fun h => ?_)
    · omega
    refine J.aload_n d_R_lost_14 rfl rfl ?_
    refine J.iload_n d_R_lost_15 rfl rfl ?_
    refine J.iload_n d_R_lost_16 rfl rfl ?_
    refine J.iload d_R_lost_17 rfl ?_
    refine J.v3i (con_R_place ho hs (by omega)) k_R_lost_R_place d_R_lost_19 rfl rfl rfl ?_
    refine J.if_geP d_R_lost_22 (tgt := 31) (by decide) (by omega) (fun q => ?_) (fun q => ?_)
    · have e2 : z1 (pl (56 * o + 7 * s + i)) = 0 := by unfold z1; rw [if_neg (by omega)]
      rw [e2] at ih
      refine J.iload_n d_R_lost_31 rfl rfl ?_
      refine J.istore_n d_R_lost_32 rfl (by decide) rfl ?_
      refine J.iincN d_R_lost_33 rfl rfl (by decide) rfl ?_
      refine J.goto d_R_lost_36 (tgt := 5) (by decide) ?_
      exact ih
    · have e2 : z1 (pl (56 * o + 7 * s + i)) = 1 := by unfold z1; rw [if_pos (by omega)]
      rw [e2] at ih
      refine J.iload_n d_R_lost_25 rfl rfl ?_
      refine J.iconst d_R_lost_26 (v := nI 1) (by decide) ?_
      refine J.iaddN d_R_lost_27 ?_
      refine J.goto d_R_lost_28 (tgt := 32) (by decide) ?_
      refine J.istore_n d_R_lost_32 rfl (by decide) rfl ?_
      refine J.iincN d_R_lost_33 rfl rfl (by decide) rfl ?_
      refine J.goto d_R_lost_36 (tgt := 5) (by decide) ?_
      exact ih
theorem con_R_lost {o s : Nat} (ho : o < 6) (hs : s < 8) (hS : K + Mo ≤ 7) (hp : ∀ i, pl i ≤ 80) : Con l i_R_lost [.ref 15, .int (nI o), .int (nI s)] (RM P K Mo co dr sz al us by_ ln pl os ou rd sp rw Y) (.inl (some (.int (nI (nl pl o s (K + Mo)))), (RM P K Mo co dr sz al us by_ ln pl os ou rd sp rw Y))) := by
  refine Con.of ?_
  refine J.iconst d_R_lost_0 (v := nI 0) (by decide) ?_
  refine J.istore_n d_R_lost_1 rfl (by decide) rfl ?_
  refine J.iconst d_R_lost_2 (v := nI 0) (by decide) ?_
  refine J.istore d_R_lost_3 (by decide) rfl ?_
  exact lp_R_lost ho hs hS hp (K + Mo) 0 (by omega)
theorem lp_R_worked {h t : Nat} (hK4 : K ≤ 4) (hS : K + Mo ≤ 7) (hh : h < K + Mo) (ht : t < 4) (hsp : ∀ i, sp i < 256) : ∀ (j i : Nat), i + j = K →
    J l i_R_worked 5 [(0, .ref 15), (1, .int (nI h)), (2, .int (nI t)), (3, .int (nI (wk K sp h t i))), (4, .int (nI i))] [] (RM P K Mo co dr sz al us by_ ln pl os ou rd sp rw Y) 0 0 (.inl (some (.int (nI (wk K sp h t K))), (RM P K Mo co dr sz al us by_ ln pl os ou rd sp rw Y)))
  | 0, i, hi => by
    refine J.iload d_R_worked_5 rfl ?_
    refine J.aload_n d_R_worked_7 rfl rfl ?_
    refine J.getfield d_R_worked_8 fl_R_44 rfl rfl ?_
    refine J.icmp_geN d_R_worked_11 (tgt := 44) (by decide) (by omega) (by omega) (fun hq => ?_) (fun hq => ?_)
    · rw [show i = K by omega]
      refine J.iload_n d_R_worked_44 rfl rfl ?_
      exact J.ireturn d_R_worked_45 rfl (by decide) (by decide)
    · omega
  | j + 1, i, hi => by
    have ih := lp_R_worked hK4 hS hh ht hsp j (i + 1) (by omega)
    have e : wk K sp h t (i + 1) = wk K sp h t i ^^^ gm (fac K (h * K + i)) (sp (4 * i + t)) := by
      show _ ^^^ gm _ (sp (i * 4 + t)) = _
      rw [Nat.mul_comm i 4]
    rw [e] at ih
    refine J.iload d_R_worked_5 rfl ?_
    refine J.aload_n d_R_worked_7 rfl rfl ?_
    refine J.getfield d_R_worked_8 fl_R_44 rfl rfl ?_
    refine J.icmp_geN d_R_worked_11 (tgt := 44) (by decide) (by omega) (by omega) (fun hq => ?_) (fun hq => ?_)
    · omega
    refine J.iload_n d_R_worked_14 rfl rfl ?_
    refine J.aload_n d_R_worked_15 rfl rfl ?_
    refine J.iload_n d_R_worked_16 rfl rfl ?_
    refine J.iload d_R_worked_17 rfl ?_
    refine J.v2i (con_R_factor hh (by omega) hK4 hS) k_R_worked_R_factor d_R_worked_19 rfl rfl rfl ?_
    refine J.aload_n d_R_worked_22 rfl rfl ?_
    refine J.getfield d_R_worked_23 fl_R_38 rfl rfl ?_
    refine J.iconst d_R_worked_26 (v := nI 4) (by decide) ?_
    refine J.iload d_R_worked_27 rfl ?_
    refine J.imulN d_R_worked_29 ?_
    refine J.iload_n d_R_worked_30 rfl rfl ?_
    refine J.iaddN d_R_worked_31 ?_
    refine J.ialoadN d_R_worked_32 rfl (by omega) (by omega) ?_
    refine J.s2i (con_R_times (fac_lt K _) (hsp _) _) k_R_worked_R_times d_R_worked_33 rfl ?_
    refine J.ixorN d_R_worked_36 ?_
    refine J.istore_n d_R_worked_37 rfl (by decide) rfl ?_
    refine J.iincN d_R_worked_38 rfl rfl (by decide) rfl ?_
    refine J.goto d_R_worked_41 (tgt := 5) (by decide) ?_
    exact ih
/-- products by one and by nothing -/
theorem gm_one_tab : (List.range 256).all (fun x => decide (gm 1 x = x ∧ gm 0 x = 0)) = true := by decide +kernel
theorem gm_one {x : Nat} (h : x < 256) : gm 1 x = x ∧ gm 0 x = 0 := by
  have := List.all_eq_true.mp gm_one_tab x (List.mem_range.mpr h)
  simpa using this
theorem wk_data {K : Nat} {da : Nat → Nat} {h t : Nat} (hda : ∀ i, da i < 256) (hh : h < K) : ∀ n, n ≤ K → wk K da h t n = if h < n then da (h * 4 + t) else 0
  | 0, _ => by simp [wk]
  | n + 1, hn => by
    have e : fac K (h * K + n) = if h = n then 1 else 0 := by
      unfold fac
      rw [dm_div (by omega), dm_mod (by omega), if_pos hh]
    have g := gm_one (hda (n * 4 + t))
    show wk K da h t n ^^^ gm (fac K (h * K + n)) (da (n * 4 + t)) = _
    rw [wk_data hda hh n (by omega), e]
    by_cases hn2 : h = n
    · subst hn2
      rw [if_pos rfl, g.1, if_neg (Nat.lt_irrefl _), if_pos (Nat.lt_succ_self _), Nat.zero_xor]
    · rw [if_neg hn2, g.2, Nat.xor_zero]
      by_cases h3 : h < n
      · rw [if_pos h3, if_pos (by omega)]
      · rw [if_neg h3, if_neg (by omega)]
theorem wk_sb {K : Nat} {da : Nat → Nat} {h t : Nat} (hda : ∀ i, da i < 256) : wk K da h t K = sb K da h t := by
  unfold sb
  by_cases hh : h < K
  · rw [if_pos hh, wk_data hda hh K (Nat.le_refl _), if_pos hh]
  · rw [if_neg hh]
theorem con_R_worked {h t : Nat} (hK4 : K ≤ 4) (hS : K + Mo ≤ 7) (hh : h < K + Mo) (ht : t < 4) (hsp : ∀ i, sp i < 256) : Con l i_R_worked [.ref 15, .int (nI h), .int (nI t)] (RM P K Mo co dr sz al us by_ ln pl os ou rd sp rw Y) (.inl (some (.int (nI (sb K sp h t))), (RM P K Mo co dr sz al us by_ ln pl os ou rd sp rw Y))) := by
  rw [← wk_sb hsp]
  refine Con.of ?_
  refine J.iconst d_R_worked_0 (v := nI 0) (by decide) ?_
  refine J.istore_n d_R_worked_1 rfl (by decide) rfl ?_
  refine J.iconst d_R_worked_2 (v := nI 0) (by decide) ?_
  refine J.istore d_R_worked_3 (by decide) rfl ?_
  exact lp_R_worked hK4 hS hh ht hsp K 0 (by omega)
/-- the free slots ahead of n -/
theorem cs1_le {f : Nat → Nat} (h : ∀ i, f i < 2) (n : Nat) : cs f n ≤ n := by
  have := cs_le (f := f) (b := 1) (fun i => by have := h i; omega) n
  omega
theorem lp_R_free {d : Nat} (hd : d < 8) (h2 : ∀ i, us i < 2) (ha : ∀ i, al i < 2) : ∀ (j i : Nat), i + j = 10 →
    J l i_R_free 4 [(0, .ref 15), (1, .int (nI d)), (2, .int (nI (i - cs (fun s => us (10 * d + s)) i))), (3, .int (nI i))] [] (RM P K Mo co dr sz al us by_ ln pl os ou rd sp rw Y) 0 0 (.inl (some (.int (nI (if al d = 0 then 0 else 10 - ud us d))), (RM P K Mo co dr sz al us by_ ln pl os ou rd sp rw Y)))
  | 0, i, hi => by
    have hi' : i = 10 := by omega
    subst hi'
    have hu := ud_le h2 d
    have had := ha d
    refine J.iload_n d_R_free_4 rfl rfl ?_
    refine J.bipush d_R_free_5 (v := nI 10) (by decide) ?_
    refine J.icmp_geN d_R_free_7 (tgt := 38) (by decide) (by omega) (by omega) (fun h => ?_) (fun h => ?_)
    · refine J.aload_n d_R_free_38 rfl rfl ?_
      refine J.getfield d_R_free_39 fl_R_13 rfl rfl ?_
      refine J.iload_n d_R_free_42 rfl rfl ?_
      refine J.baloadN d_R_free_43 rfl (by omega) (by omega) ?_
      refine J.if_eqN d_R_free_44 (tgt := 51) (by decide) (by omega) (fun h3 => ?_) (fun h3 => ?_)
      · rw [if_pos h3]
        refine J.iconst d_R_free_51 (v := nI 0) (by decide) ?_
        exact J.ireturn d_R_free_52 rfl (by decide) (by decide)
      · rw [if_neg h3]
        refine J.iload_n d_R_free_47 rfl rfl ?_
        refine J.goto d_R_free_48 (tgt := 52) (by decide) ?_
        exact J.ireturn d_R_free_52 rfl (by decide) (by decide)
    · omega
  | j + 1, i, hi => by
    have ih := lp_R_free hd h2 ha j (i + 1) (by omega)
    have hui := h2 (10 * d + i)
    have hle := cs1_le (f := fun s => us (10 * d + s)) (fun s => h2 _) i
    have e : cs (fun s => us (10 * d + s)) (i + 1) = cs (fun s => us (10 * d + s)) i + us (10 * d + i) := rfl
    rw [e] at ih
    refine J.iload_n d_R_free_4 rfl rfl ?_
    refine J.bipush d_R_free_5 (v := nI 10) (by decide) ?_
    refine J.icmp_geN d_R_free_7 (tgt := 38) (by decide) (by omega) (by omega) (fun h => ?_) (fun h => ?_)
    · omega
    refine J.aload_n d_R_free_10 rfl rfl ?_
    refine J.getfield d_R_free_11 fl_R_17 rfl rfl ?_
    refine J.bipush d_R_free_14 (v := nI 10) (by decide) ?_
    refine J.iload_n d_R_free_16 rfl rfl ?_
    refine J.imulN d_R_free_17 ?_
    refine J.iload_n d_R_free_18 rfl rfl ?_
    refine J.iaddN d_R_free_19 ?_
    refine J.baloadN d_R_free_20 rfl (by omega) (by omega) ?_
    refine J.if_eqN d_R_free_21 (tgt := 28) (by decide) (by omega) (fun h3 => ?_) (fun h3 => ?_)
    · rw [h3, show i + 1 - (cs (fun s => us (10 * d + s)) i + 0) = i - cs (fun s => us (10 * d + s)) i + 1 by omega] at ih
      refine J.iload_n d_R_free_28 rfl rfl ?_
      refine J.iconst d_R_free_29 (v := nI 1) (by decide) ?_
      refine J.iaddN d_R_free_30 ?_
      refine J.istore_n d_R_free_31 rfl (by decide) rfl ?_
      refine J.iincN d_R_free_32 rfl rfl (by decide) rfl ?_
      refine J.goto d_R_free_35 (tgt := 4) (by decide) ?_
      exact ih
    · rw [show us (10 * d + i) = 1 by omega, show i + 1 - (cs (fun s => us (10 * d + s)) i + 1) = i - cs (fun s => us (10 * d + s)) i by omega] at ih
      refine J.iload_n d_R_free_24 rfl rfl ?_
      refine J.goto d_R_free_25 (tgt := 31) (by decide) ?_
      refine J.istore_n d_R_free_31 rfl (by decide) rfl ?_
      refine J.iincN d_R_free_32 rfl rfl (by decide) rfl ?_
      refine J.goto d_R_free_35 (tgt := 4) (by decide) ?_
      exact ih
theorem con_R_free {d : Nat} (hd : d < 8) (h2 : ∀ i, us i < 2) (ha : ∀ i, al i < 2) : Con l i_R_free [.ref 15, .int (nI d)] (RM P K Mo co dr sz al us by_ ln pl os ou rd sp rw Y) (.inl (some (.int (nI (if al d = 0 then 0 else 10 - ud us d))), (RM P K Mo co dr sz al us by_ ln pl os ou rd sp rw Y))) := by
  refine Con.of ?_
  refine J.iconst d_R_free_0 (v := nI 0) (by decide) ?_
  refine J.istore_n d_R_free_1 rfl (by decide) rfl ?_
  refine J.iconst d_R_free_2 (v := nI 0) (by decide) ?_
  refine J.istore_n d_R_free_3 rfl (by decide) rfl ?_
  exact lp_R_free hd h2 ha 10 0 (by omega)
end REF
