/-! The reference's store -/
section REFSTORE
variable {l : Launch} {P : Nat → va_E} {K Mo co sz os : Nat} {dr al us by_ ln pl ou rd sp rw : Nat → Nat} {Y : List va_E}
theorem con_R_store0 {x : Int32} (hln : ∀ o, ln o ≤ 32) (hsz : sz ≤ 32) (hx : noS ln sz x) : Con l i_R_store [.ref 15, .int x] (RM P K Mo co dr sz al us by_ ln pl os ou rd sp rw Y) (.inl (some (.int (nI 0)), (RM P K Mo 1 dr sz al us by_ ln pl os ou rd sp rw Y))) := by
  have fin : ∀ {lv}, J l i_R_store 24 ((0, .ref 15) :: lv) [.ref 15] (RM P K Mo co dr sz al us by_ ln pl os ou rd sp rw Y) 0 0 (.inl (some (.int (nI 0)), (RM P K Mo 1 dr sz al us by_ ln pl os ou rd sp rw Y))) := by
    intro lv
    refine J.iconst d_R_store_24 (v := nI 1) (by decide) ?_
    refine J.goto d_R_store_25 (tgt := 29) (by decide) ?_
    refine J.putfield d_R_store_29 (fs_R_59 _) rfl (Nat.le_of_ble_eq_true rfl) rfl rfl ?_
    refine J.aload_n d_R_store_32 rfl rfl ?_
    refine J.getfield d_R_store_33 fl_R_59 rfl rfl ?_
    refine J.if_leN d_R_store_36 (tgt := 41) (by decide) (by omega) (fun h3 => ?_) (fun h3 => ?_)
    · exact absurd h3 (by decide)
    · refine J.iconst d_R_store_39 (v := nI 0) (by decide) ?_
      exact J.ireturn d_R_store_40 rfl (by decide) (by decide)
  rcases hx with hx | ⟨o, ho, rfl, h⟩
  · refine Con.of ?_
    refine J.aload_n d_R_store_0 rfl rfl ?_
    refine J.iload_n d_R_store_1 rfl rfl ?_
    refine J.s1i (con_R_isObj0 hx _) k_R_store_R_isObject d_R_store_2 rfl ?_
    refine J.if_eqN d_R_store_5 (tgt := 24) (by decide) (by omega) (fun h => ?_) (fun h => ?_)
    · exact fin
    · exact absurd rfl h
  · have hlo := hln o
    refine Con.of ?_
    refine J.aload_n d_R_store_0 rfl rfl ?_
    refine J.iload_n d_R_store_1 rfl rfl ?_
    refine J.s1i (con_R_isObj1 ho _) k_R_store_R_isObject d_R_store_2 rfl ?_
    refine J.if_eqN d_R_store_5 (tgt := 24) (by decide) (by omega) (fun h1 => ?_) (fun h1 => ?_)
    · exact absurd h1 (by decide)
    refine J.aload_n d_R_store_8 rfl rfl ?_
    refine J.getfield d_R_store_9 fl_R_23 rfl rfl ?_
    refine J.iload_n d_R_store_12 rfl rfl ?_
    refine J.ialoadN d_R_store_13 rfl (by omega) (by omega) ?_
    refine J.if_gtN d_R_store_14 (tgt := 24) (by decide) (by omega) (fun h2 => ?_) (fun h2 => ?_)
    · exact fin
    refine J.aload_n d_R_store_17 rfl rfl ?_
    refine J.getfield d_R_store_18 fl_R_62 rfl rfl ?_
    refine J.if_neN d_R_store_21 (tgt := 28) (by decide) (by omega) (fun h3 => ?_) (fun h3 => ?_)
    · omega
    · exact fin
theorem td_up0 {K : Nat} {dr : Nat → Nat} {dl s : Nat} {da : Nat → Nat} {n : Nat} : up (td K dr dl s da n) n (if 4 * K * s + n < dl then dr (4 * K * s + n) else 0) = td K dr dl s da (n + 1) := by
  rw [← td_up, Nat.mul_comm (4 * K) s]
theorem lp_R_sfill {o s n : Nat} {g : Int32} (hK4 : K ≤ 4) (hs : s < 8) (hsz : sz ≤ 32) {out : Out}
    (kk : J l i_R_store 135 [(0, .ref 15), (1, .int (nI o)), (2, .int (nI n)), (3, .int g), (4, .int (nI s))] [] (RM P K Mo co dr sz al us by_ ln pl os ou rd (td K dr sz s sp (4 * K)) rw Y) 0 0 out) : ∀ (j i : Nat), i + j = 4 * K →
    J l i_R_store 77 [(0, .ref 15), (1, .int (nI o)), (2, .int (nI n)), (3, .int g), (4, .int (nI s)), (5, .int (nI i))] [] (RM P K Mo co dr sz al us by_ ln pl os ou rd (td K dr sz s sp i) rw Y) 0 0 out
  | 0, i, hi => by
    have hi' : i = 4 * K := by omega
    rw [hi']
    refine J.iload d_R_store_77 rfl ?_
    refine J.iconst d_R_store_79 (v := nI 4) (by decide) ?_
    refine J.aload_n d_R_store_80 rfl rfl ?_
    refine J.getfield d_R_store_81 fl_R_44 rfl rfl ?_
    refine J.imulN d_R_store_84 ?_
    refine J.icmp_geN d_R_store_85 (tgt := 135) (by decide) (by omega) (by omega) (fun h => ?_) (fun h => ?_)
    · exact J.sub [0, 1, 2, 3, 4] kk
    · omega
  | j + 1, i, hi => by
    have h1 : s * (4 * K) ≤ 8 * (4 * 4) := Nat.mul_le_mul (by omega) (by omega)
    have ec : 4 * K * s = s * (4 * K) := Nat.mul_comm _ _
    have ih := lp_R_sfill (o := o) (n := n) (g := g) hK4 hs hsz kk j (i + 1) (by omega)
    rw [← td_up0] at ih
    refine J.iload d_R_store_77 rfl ?_
    refine J.iconst d_R_store_79 (v := nI 4) (by decide) ?_
    refine J.aload_n d_R_store_80 rfl rfl ?_
    refine J.getfield d_R_store_81 fl_R_44 rfl rfl ?_
    refine J.imulN d_R_store_84 ?_
    refine J.icmp_geN d_R_store_85 (tgt := 135) (by decide) (by omega) (by omega) (fun h => ?_) (fun h => ?_)
    · omega
    refine J.iconst d_R_store_88 (v := nI 4) (by decide) ?_
    refine J.aload_n d_R_store_89 rfl rfl ?_
    refine J.getfield d_R_store_90 fl_R_44 rfl rfl ?_
    refine J.imulN d_R_store_93 ?_
    refine J.iload d_R_store_94 rfl ?_
    refine J.imulN d_R_store_96 ?_
    refine J.iload d_R_store_97 rfl ?_
    refine J.iaddN d_R_store_99 ?_
    refine J.istore d_R_store_100 (by decide) rfl ?_
    refine J.aload_n d_R_store_102 rfl rfl ?_
    refine J.getfield d_R_store_103 fl_R_38 rfl rfl ?_
    refine J.iload d_R_store_106 rfl ?_
    refine J.iload d_R_store_108 rfl ?_
    refine J.aload_n d_R_store_110 rfl rfl ?_
    refine J.getfield d_R_store_111 fl_R_62 rfl rfl ?_
    refine J.icmp_geN d_R_store_114 (tgt := 127) (by decide) (by omega) (by omega) (fun h2 => ?_) (fun h2 => ?_)
    · rw [if_neg (by omega)] at ih
      refine J.iconst d_R_store_127 (v := nI 0) (by decide) ?_
      refine J.iastoreN d_R_store_128 rfl (by omega) (by omega) ?_
      refine J.iincN d_R_store_129 rfl rfl (by decide) rfl ?_
      refine J.goto d_R_store_132 (tgt := 77) (by decide) ?_
      exact J.sub [0, 1, 2, 3, 4, 5] ih
    · rw [if_pos (by omega)] at ih
      refine J.aload_n d_R_store_117 rfl rfl ?_
      refine J.getfield d_R_store_118 fl_R_7 rfl rfl ?_
      refine J.iload d_R_store_121 rfl ?_
      refine J.ialoadN d_R_store_123 rfl (by omega) (by omega) ?_
      refine J.goto d_R_store_124 (tgt := 128) (by decide) ?_
      refine J.iastoreN d_R_store_128 rfl (by omega) (by omega) ?_
      refine J.iincN d_R_store_129 rfl rfl (by decide) rfl ?_
      refine J.goto d_R_store_132 (tgt := 77) (by decide) ?_
      exact J.sub [0, 1, 2, 3, 4, 5] ih
theorem pdH_f {K : Nat} {da al : Nat → Nat} {o s Sh : Nat} {x : U3} : ∀ n, (pdH K da al o s Sh x n).1 < 2
  | 0 => by show 1 < 2; decide
  | n + 1 => by
    have ih := pdH_f (K := K) (da := da) (al := al) (o := o) (s := s) (Sh := Sh) (x := x) n
    unfold pdH; split
    · exact ih
    · split
      · show 0 < 2; decide
      · show 1 < 2; decide
theorem pdP_f {K : Nat} {dr : Nat → Nat} {dl : Nat} {al : Nat → Nat} {o Sh : Nat} {x : U3} : ∀ n, (pdP K dr dl al o Sh x n).1 < 2
  | 0 => by show 1 < 2; decide
  | n + 1 => by
    unfold pdP; split
    · exact pdP_f n
    · exact pdH_f Sh
theorem lp_R_slay {o s n : Nat} {x : U3} (hx : okU x) (hK4 : K ≤ 4) (hM : Mo ≤ 3) (ho : o < 6) (hs : s < 8) (ha : ∀ i, al i < 2) (hsp : ∀ i, sp i < 256) {out : Out}
    (kk : J l i_R_store 175 [(0, .ref 15), (1, .int (nI o)), (2, .int (nI n)), (3, .int (nI (pdH K sp al o s (K + Mo) x (K + Mo)).1)), (4, .int (nI s))] [] (RM P K Mo co dr sz al ((pdH K sp al o s (K + Mo) x (K + Mo)).2.1) ((pdH K sp al o s (K + Mo) x (K + Mo)).2.2.1) ln ((pdH K sp al o s (K + Mo) x (K + Mo)).2.2.2) os ou rd sp rw Y) 0 0 out) : ∀ (j i : Nat), i + j = K + Mo →
    J l i_R_store 138 [(0, .ref 15), (1, .int (nI o)), (2, .int (nI n)), (3, .int (nI (pdH K sp al o s (K + Mo) x i).1)), (4, .int (nI s)), (5, .int (nI i))] [] (RM P K Mo co dr sz al ((pdH K sp al o s (K + Mo) x i).2.1) ((pdH K sp al o s (K + Mo) x i).2.2.1) ln ((pdH K sp al o s (K + Mo) x i).2.2.2) os ou rd sp rw Y) 0 0 out
  | 0, i, hi => by
    have hi' : i = K + Mo := by omega
    rw [hi']
    refine J.iload d_R_store_138 rfl ?_
    refine J.aload_n d_R_store_140 rfl rfl ?_
    refine J.v0i con_R_shards k_R_store_R_shards d_R_store_141 rfl rfl rfl ?_
    refine J.icmp_geN d_R_store_144 (tgt := 175) (by decide) (by omega) (by omega) (fun h => ?_) (fun h => ?_)
    · exact J.sub [0, 1, 2, 3, 4] kk
    · omega
  | j + 1, i, hi => by
    have hS : K + Mo ≤ 7 := by omega
    have hok := pdH_ok (K := K) (al := al) (o := o) (s := s) (Sh := K + Mo) hx hsp i
    have hf := pdH_f (K := K) (da := sp) (al := al) (o := o) (s := s) (Sh := K + Mo) (x := x) i
    have ih := lp_R_slay (n := n) hx hK4 hM ho hs ha hsp kk j (i + 1) (by omega)
    have hu : pdH K sp al o s (K + Mo) x (i + 1) = if (pdH K sp al o s (K + Mo) x i).1 = 0 then pdH K sp al o s (K + Mo) x i else if gp al (pdH K sp al o s (K + Mo) x i).2.1 (pdH K sp al o s (K + Mo) x i).2.2.2 o s (K + Mo) = 0 then (0, (pdH K sp al o s (K + Mo) x i).2) else (1, layU K sp al o s (K + Mo) i (pdH K sp al o s (K + Mo) x i).2) := rfl
    rw [hu] at ih
    generalize pdH K sp al o s (K + Mo) x i = y at hok hf ih ⊢
    refine J.iload d_R_store_138 rfl ?_
    refine J.aload_n d_R_store_140 rfl rfl ?_
    refine J.v0i con_R_shards k_R_store_R_shards d_R_store_141 rfl rfl rfl ?_
    refine J.icmp_geN d_R_store_144 (tgt := 175) (by decide) (by omega) (by omega) (fun h => ?_) (fun h => ?_)
    · omega
    refine J.iload_n d_R_store_147 rfl rfl ?_
    refine J.if_eqN d_R_store_148 (tgt := 167) (by decide) (by omega) (fun h3 => ?_) (fun h3 => ?_)
    · rw [if_pos h3, h3] at ih
      refine J.iconst d_R_store_167 (v := nI 0) (by decide) ?_
      refine J.istore_n d_R_store_168 rfl (by decide) rfl ?_
      refine J.iincN d_R_store_169 rfl rfl (by decide) rfl ?_
      refine J.goto d_R_store_172 (tgt := 138) (by decide) ?_
      exact ih
    · rw [if_neg h3] at ih
      have y1 : y.1 = 1 := by omega
      refine J.aload_n d_R_store_151 rfl rfl ?_
      refine J.iload_n d_R_store_152 rfl rfl ?_
      refine J.iload d_R_store_153 rfl ?_
      refine J.iload d_R_store_155 rfl ?_
      by_cases hg : gp al y.2.1 y.2.2.2 o s (K + Mo) = 0
      · rw [if_pos hg] at ih
        refine J.v3i (con_R_lay0 ho hs hS hok.2.2 hok.1 ha hg) k_R_store_R_lay d_R_store_157 rfl rfl rfl ?_
        refine J.if_eqN d_R_store_160 (tgt := 167) (by decide) (by omega) (fun h4 => ?_) (fun h4 => ?_)
        · refine J.iconst d_R_store_167 (v := nI 0) (by decide) ?_
          refine J.istore_n d_R_store_168 rfl (by decide) rfl ?_
          refine J.iincN d_R_store_169 rfl rfl (by decide) rfl ?_
          refine J.goto d_R_store_172 (tgt := 138) (by decide) ?_
          exact ih
        · exact absurd rfl h4
      · rw [if_neg hg] at ih
        refine J.v3i (con_R_lay ho hs hK4 hS (by omega) hok.2.2 hok.1 ha hsp hg) k_R_store_R_lay d_R_store_157 rfl rfl rfl ?_
        refine J.if_eqN d_R_store_160 (tgt := 167) (by decide) (by omega) (fun h4 => ?_) (fun h4 => ?_)
        · exact absurd h4 (by decide)
        · refine J.iconst d_R_store_163 (v := nI 1) (by decide) ?_
          refine J.goto d_R_store_164 (tgt := 168) (by decide) ?_
          refine J.istore_n d_R_store_168 rfl (by decide) rfl ?_
          refine J.iincN d_R_store_169 rfl rfl (by decide) rfl ?_
          refine J.goto d_R_store_172 (tgt := 138) (by decide) ?_
          exact ih
theorem lp_R_slay0 {o s n : Nat} (hS : K + Mo ≤ 7) {out : Out}
    (kk : J l i_R_store 175 [(0, .ref 15), (1, .int (nI o)), (2, .int (nI n)), (3, .int (nI 0)), (4, .int (nI s))] [] (RM P K Mo co dr sz al us by_ ln pl os ou rd sp rw Y) 0 0 out) : ∀ (j i : Nat), i + j = K + Mo →
    J l i_R_store 138 [(0, .ref 15), (1, .int (nI o)), (2, .int (nI n)), (3, .int (nI 0)), (4, .int (nI s)), (5, .int (nI i))] [] (RM P K Mo co dr sz al us by_ ln pl os ou rd sp rw Y) 0 0 out
  | 0, i, hi => by
    have hi' : i = K + Mo := by omega
    rw [hi']
    refine J.iload d_R_store_138 rfl ?_
    refine J.aload_n d_R_store_140 rfl rfl ?_
    refine J.v0i con_R_shards k_R_store_R_shards d_R_store_141 rfl rfl rfl ?_
    refine J.icmp_geN d_R_store_144 (tgt := 175) (by decide) (by omega) (by omega) (fun h => ?_) (fun h => ?_)
    · exact J.sub [0, 1, 2, 3, 4] kk
    · omega
  | j + 1, i, hi => by
    have ih := lp_R_slay0 hS kk j (i + 1) (by omega)
    refine J.iload d_R_store_138 rfl ?_
    refine J.aload_n d_R_store_140 rfl rfl ?_
    refine J.v0i con_R_shards k_R_store_R_shards d_R_store_141 rfl rfl rfl ?_
    refine J.icmp_geN d_R_store_144 (tgt := 175) (by decide) (by omega) (by omega) (fun h => ?_) (fun h => ?_)
    · omega
    refine J.iload_n d_R_store_147 rfl rfl ?_
    refine J.if_eqN d_R_store_148 (tgt := 167) (by decide) (by omega) (fun h3 => ?_) (fun h3 => ?_)
    · refine J.iconst d_R_store_167 (v := nI 0) (by decide) ?_
      refine J.istore_n d_R_store_168 rfl (by decide) rfl ?_
      refine J.iincN d_R_store_169 rfl rfl (by decide) rfl ?_
      refine J.goto d_R_store_172 (tgt := 138) (by decide) ?_
      exact ih
    · exact absurd rfl h3
theorem lp_R_store {o n : Nat} {x : U3} (hx : okU x) (hK4 : K ≤ 4) (hM : Mo ≤ 3) (ho : o < 6) (ha : ∀ i, al i < 2) (hr : ∀ i, dr i < 256) (hsz : sz ≤ 32) (hn8 : n ≤ 8) {out : (Nat → Nat) → Out}
    (kk : ∀ sp : Nat → Nat, (∀ i, sp i < 256) → ∃ sp', (∀ i, sp' i < 256) ∧ J l i_R_store 181 [(0, .ref 15), (1, .int (nI o)), (2, .int (nI n)), (3, .int (nI (pdP K dr sz al o (K + Mo) x n).1))] [] (RM P K Mo co dr sz al ((pdP K dr sz al o (K + Mo) x n).2.1) ((pdP K dr sz al o (K + Mo) x n).2.2.1) ln ((pdP K dr sz al o (K + Mo) x n).2.2.2) os ou rd sp rw Y) 0 0 (out sp')) : ∀ (j i : Nat), i + j = n → ∀ sp : Nat → Nat, (∀ i, sp i < 256) →
    ∃ sp', (∀ i, sp' i < 256) ∧ J l i_R_store 68 [(0, .ref 15), (1, .int (nI o)), (2, .int (nI n)), (3, .int (nI (pdP K dr sz al o (K + Mo) x i).1)), (4, .int (nI i))] [] (RM P K Mo co dr sz al ((pdP K dr sz al o (K + Mo) x i).2.1) ((pdP K dr sz al o (K + Mo) x i).2.2.1) ln ((pdP K dr sz al o (K + Mo) x i).2.2.2) os ou rd sp rw Y) 0 0 (out sp')
  | 0, i, hi, sp, hsp => by
    have hi' : i = n := by omega
    subst hi'
    obtain ⟨sp', h1, hJ⟩ := kk sp hsp
    refine ⟨sp', h1, ?_⟩
    refine J.iload d_R_store_68 rfl ?_
    refine J.iload_n d_R_store_70 rfl rfl ?_
    refine J.icmp_geN d_R_store_71 (tgt := 181) (by decide) (by omega) (by omega) (fun h => ?_) (fun h => ?_)
    · exact J.sub [0, 1, 2, 3] hJ
    · omega
  | j + 1, i, hi, sp, hsp => by
    have hs8 : i < 8 := by omega
    have hS : K + Mo ≤ 7 := by omega
    have hok := pdP_ok (K := K) (dl := sz) (al := al) (o := o) (Sh := K + Mo) hx hr i
    have hf := pdP_f (K := K) (dr := dr) (dl := sz) (al := al) (o := o) (Sh := K + Mo) (x := x) i
    have htd := td_lt (K := K) (dl := sz) (s := i) (n := 4 * K) hr hsp
    obtain ⟨sp', h1, hJ⟩ := lp_R_store hx hK4 hM ho ha hr hsz hn8 kk j (i + 1) (by omega) (td K dr sz i sp (4 * K)) htd
    refine ⟨sp', h1, ?_⟩
    have hu : pdP K dr sz al o (K + Mo) x (i + 1) = if (pdP K dr sz al o (K + Mo) x i).1 = 0 then pdP K dr sz al o (K + Mo) x i else pdH K (td0 K dr sz i) al o i (K + Mo) (pdP K dr sz al o (K + Mo) x i).2 (K + Mo) := rfl
    rw [hu] at hJ
    generalize pdP K dr sz al o (K + Mo) x i = y at hok hf hJ ⊢
    refine J.iload d_R_store_68 rfl ?_
    refine J.iload_n d_R_store_70 rfl rfl ?_
    refine J.icmp_geN d_R_store_71 (tgt := 181) (by decide) (by omega) (by omega) (fun h => ?_) (fun h => ?_)
    · omega
    refine J.iconst d_R_store_74 (v := nI 0) (by decide) ?_
    refine J.istore d_R_store_75 (by decide) rfl ?_
    have hfill := fun (g : Int32) (kk) => lp_R_sfill (l := l) (P := P) (K := K) (Mo := Mo) (co := co) (sz := sz) (os := os) (dr := dr) (al := al) (us := y.2.1) (by_ := y.2.2.1) (ln := ln) (pl := y.2.2.2) (ou := ou) (rd := rd) (sp := sp) (rw := rw) (Y := Y) (o := o) (s := i) (n := n) (g := g) (out := out sp') hK4 hs8 hsz kk (4 * K) 0 (by omega)
    rw [td_0] at hfill
    refine hfill (nI y.1) ?_
    by_cases h0 : y.1 = 0
    · rw [if_pos h0, h0] at hJ
      rw [h0]
      refine J.iconst d_R_store_135 (v := nI 0) (by decide) ?_
      refine J.istore d_R_store_136 (by decide) rfl ?_
      refine lp_R_slay0 hS ?_ (K + Mo) 0 (by omega)
      refine J.iincN d_R_store_175 rfl rfl (by decide) rfl ?_
      refine J.goto d_R_store_178 (tgt := 68) (by decide) ?_
      exact hJ
    · rw [if_neg h0, ← pdH_congr (td_td0 K dr sz i sp)] at hJ
      rw [show y.1 = 1 by omega]
      refine J.iconst d_R_store_135 (v := nI 0) (by decide) ?_
      refine J.istore d_R_store_136 (by decide) rfl ?_
      refine lp_R_slay (x := y.2) hok hK4 hM ho hs8 ha htd ?_ (K + Mo) 0 (by omega)
      refine J.iincN d_R_store_175 rfl rfl (by decide) rfl ?_
      refine J.goto d_R_store_178 (tgt := 68) (by decide) ?_
      exact hJ
theorem clS_0 {o : Nat} {x : U2} : ∀ n, (∀ i, i < n → x.2.2 (56 * o + i) = 0) → clS o x n = x
  | 0, _ => rfl
  | n + 1, h => by
    show rl1 _ _ = _
    rw [clS_0 n (fun i hi => h i (by omega))]
    unfold rl1
    rw [if_pos (h n (by omega))]
/-- store, up to the end of its loop -/
theorem con_R_storeL {o : Nat} (hx : okU (us, by_, pl)) (hsp : ∀ i, sp i < 256) (hK : 0 < K) (hK4 : K ≤ 4) (hM : Mo ≤ 3) (ho : o < 6) (ha : ∀ i, al i < 2) (hr : ∀ i, dr i < 256) (hsz : sz ≤ 32) (h0 : ln o = 0) (hs0 : 0 < sz) (hz : ∀ i, i < 56 → pl (56 * o + i) = 0) {out : (Nat → Nat) → Out}
    (kk : ∀ sp : Nat → Nat, (∀ i, sp i < 256) → ∃ sp', (∀ i, sp' i < 256) ∧ J l i_R_store 181 [(0, .ref 15), (1, .int (nI o)), (2, .int (nI (ns K sz))), (3, .int (nI (pdP K dr sz al o (K + Mo) (us, by_, pl) (ns K sz)).1))] [] (RM P K Mo 0 dr sz al ((pdP K dr sz al o (K + Mo) (us, by_, pl) (ns K sz)).2.1) ((pdP K dr sz al o (K + Mo) (us, by_, pl) (ns K sz)).2.2.1) (up ln o sz) ((pdP K dr sz al o (K + Mo) (us, by_, pl) (ns K sz)).2.2.2) os ou rd sp rw Y) 0 0 (out sp')) :
    ∃ sp', (∀ i, sp' i < 256) ∧ Con l i_R_store [.ref 15, .int (nI o)] (RM P K Mo co dr sz al us by_ ln pl os ou rd sp rw Y) (out sp') := by
  have hn8 := ns_le (n := sz) hK hsz
  obtain ⟨sp', h1, hJ⟩ := lp_R_store (l := l) (P := P) (K := K) (Mo := Mo) (co := 0) (os := os) (ln := up ln o sz) (ou := ou) (rd := rd) (rw := rw) (Y := Y) (x := (us, by_, pl)) hx hK4 hM ho ha hr hsz hn8 kk (ns K sz) 0 (by omega) sp hsp
  have hcl := con_R_clear (l := l) (P := P) (K := K) (Mo := Mo) (co := 0) (sz := sz) (os := os) (dr := dr) (al := al) (us := us) (by_ := by_) (ln := ln) (pl := pl) (ou := ou) (rd := rd) (sp := sp) (rw := rw) (Y := Y) hx.1 hx.2.2 ho
  rw [clS_0 56 hz, up_same h0] at hcl
  have hso := con_R_stripesOf (l := l) (P := P) (K := K) (Mo := Mo) (co := 0) (sz := sz) (os := os) (dr := dr) (al := al) (us := us) (by_ := by_) (ln := up ln o sz) (pl := pl) (ou := ou) (rd := rd) (sp := sp) (rw := rw) (Y := Y) ho hK hK4 (by rw [up_at]; omega)
  rw [up_at] at hso
  refine ⟨sp', h1, Con.of ?_⟩
  refine J.aload_n d_R_store_0 rfl rfl ?_
  refine J.iload_n d_R_store_1 rfl rfl ?_
  refine J.s1i (con_R_isObj1 ho _) k_R_store_R_isObject d_R_store_2 rfl ?_
  refine J.if_eqN d_R_store_5 (tgt := 24) (by decide) (by omega) (fun h => ?_) (fun h => ?_)
  · exact absurd h (by decide)
  refine J.aload_n d_R_store_8 rfl rfl ?_
  refine J.getfield d_R_store_9 fl_R_23 rfl rfl ?_
  refine J.iload_n d_R_store_12 rfl rfl ?_
  refine J.ialoadN d_R_store_13 rfl (by omega) (by omega) ?_
  rw [h0]
  refine J.if_gtN d_R_store_14 (tgt := 24) (by decide) (by omega) (fun h2 => ?_) (fun h2 => ?_)
  · exact absurd h2 (by decide)
  refine J.aload_n d_R_store_17 rfl rfl ?_
  refine J.getfield d_R_store_18 fl_R_62 rfl rfl ?_
  refine J.if_neN d_R_store_21 (tgt := 28) (by decide) (by omega) (fun h3 => ?_) (fun h3 => ?_)
  · refine J.iconst d_R_store_28 (v := nI 0) (by decide) ?_
    refine J.putfield d_R_store_29 (fs_R_59 _) rfl (Nat.le_of_ble_eq_true rfl) rfl rfl ?_
    refine J.aload_n d_R_store_32 rfl rfl ?_
    refine J.getfield d_R_store_33 fl_R_59 rfl rfl ?_
    refine J.if_leN d_R_store_36 (tgt := 41) (by decide) (by omega) (fun h4 => ?_) (fun h4 => ?_)
    · refine J.aload_n d_R_store_41 rfl rfl ?_
      refine J.iload_n d_R_store_42 rfl rfl ?_
      refine J.v1i hcl k_R_store_R_clear d_R_store_43 rfl rfl rfl ?_
      refine J.pop d_R_store_46 rfl ?_
      refine J.aload_n d_R_store_47 rfl rfl ?_
      refine J.getfield d_R_store_48 fl_R_23 rfl rfl ?_
      refine J.iload_n d_R_store_51 rfl rfl ?_
      refine J.aload_n d_R_store_52 rfl rfl ?_
      refine J.getfield d_R_store_53 fl_R_62 rfl rfl ?_
      refine J.iastoreN d_R_store_56 rfl (by omega) (by omega) ?_
      refine J.aload_n d_R_store_57 rfl rfl ?_
      refine J.iload_n d_R_store_58 rfl rfl ?_
      refine J.v1i hso k_R_store_R_stripesOf d_R_store_59 rfl rfl rfl ?_
      refine J.istore_n d_R_store_62 rfl (by decide) rfl ?_
      refine J.iconst d_R_store_63 (v := nI 1) (by decide) ?_
      refine J.istore_n d_R_store_64 rfl (by decide) rfl ?_
      refine J.iconst d_R_store_65 (v := nI 0) (by decide) ?_
      refine J.istore d_R_store_66 (by decide) rfl ?_
      exact hJ
    · exact absurd h4 (by decide)
  · omega
theorem con_R_store1 {o : Nat} (hx : okU (us, by_, pl)) (hsp : ∀ i, sp i < 256) (hK : 0 < K) (hK4 : K ≤ 4) (hM : Mo ≤ 3) (ho : o < 6) (ha : ∀ i, al i < 2) (hr : ∀ i, dr i < 256) (hsz : sz ≤ 32) (h0 : ln o = 0) (hs0 : 0 < sz) (hz : ∀ i, i < 56 → pl (56 * o + i) = 0) (hp : (pdP K dr sz al o (K + Mo) (us, by_, pl) (ns K sz)).1 ≠ 0) :
    ∃ sp', (∀ i, sp' i < 256) ∧ Con l i_R_store [.ref 15, .int (nI o)] (RM P K Mo co dr sz al us by_ ln pl os ou rd sp rw Y) (.inl (some (.int (nI (ns K sz))), (RM P K Mo 0 dr 0 al ((pdP K dr sz al o (K + Mo) (us, by_, pl) (ns K sz)).2.1) ((pdP K dr sz al o (K + Mo) (us, by_, pl) (ns K sz)).2.2.1) (up ln o sz) ((pdP K dr sz al o (K + Mo) (us, by_, pl) (ns K sz)).2.2.2) os ou rd sp' rw Y))) := by
  have hf := pdP_f (K := K) (dr := dr) (dl := sz) (al := al) (o := o) (Sh := K + Mo) (x := (us, by_, pl)) (ns K sz)
  refine con_R_storeL (out := fun sp' => .inl (some (.int (nI (ns K sz))), (RM P K Mo 0 dr 0 al ((pdP K dr sz al o (K + Mo) (us, by_, pl) (ns K sz)).2.1) ((pdP K dr sz al o (K + Mo) (us, by_, pl) (ns K sz)).2.2.1) (up ln o sz) ((pdP K dr sz al o (K + Mo) (us, by_, pl) (ns K sz)).2.2.2) os ou rd sp' rw Y))) hx hsp hK hK4 hM ho ha hr hsz h0 hs0 hz (fun sp hsp => ⟨sp, hsp, ?_⟩)
  generalize pdP K dr sz al o (K + Mo) (us, by_, pl) (ns K sz) = y at hp hf ⊢
  refine J.iload_n d_R_store_181 rfl rfl ?_
  refine J.if_neN d_R_store_182 (tgt := 198) (by decide) (by omega) (fun h => ?_) (fun h => ?_)
  · refine J.aload_n d_R_store_198 rfl rfl ?_
    refine J.iconst d_R_store_199 (v := nI 0) (by decide) ?_
    refine J.putfield d_R_store_200 (fs_R_62 _) rfl (Nat.le_of_ble_eq_true rfl) rfl rfl ?_
    refine J.iload_n d_R_store_203 rfl rfl ?_
    exact J.ireturn d_R_store_204 rfl (by decide) (by decide)
  · omega
theorem con_R_store2 {o : Nat} (hx : okU (us, by_, pl)) (hsp : ∀ i, sp i < 256) (hK : 0 < K) (hK4 : K ≤ 4) (hM : Mo ≤ 3) (ho : o < 6) (ha : ∀ i, al i < 2) (hr : ∀ i, dr i < 256) (hsz : sz ≤ 32) (h0 : ln o = 0) (hs0 : 0 < sz) (hz : ∀ i, i < 56 → pl (56 * o + i) = 0) (hp : (pdP K dr sz al o (K + Mo) (us, by_, pl) (ns K sz)).1 = 0) :
    ∃ sp', (∀ i, sp' i < 256) ∧ Con l i_R_store [.ref 15, .int (nI o)] (RM P K Mo co dr sz al us by_ ln pl os ou rd sp rw Y) (.inl (some (.int (nI 0)), (RM P K Mo 2 dr sz al ((clS o (0, (pdP K dr sz al o (K + Mo) (us, by_, pl) (ns K sz)).2.1, (pdP K dr sz al o (K + Mo) (us, by_, pl) (ns K sz)).2.2.2) 56).2.1) ((pdP K dr sz al o (K + Mo) (us, by_, pl) (ns K sz)).2.2.1) (up (up ln o sz) o 0) ((clS o (0, (pdP K dr sz al o (K + Mo) (us, by_, pl) (ns K sz)).2.1, (pdP K dr sz al o (K + Mo) (us, by_, pl) (ns K sz)).2.2.2) 56).2.2) os ou rd sp' rw Y))) := by
  have hok := pdP_ok (K := K) (dl := sz) (al := al) (o := o) (Sh := K + Mo) hx hr (ns K sz)
  refine con_R_storeL (out := fun sp' => .inl (some (.int (nI 0)), (RM P K Mo 2 dr sz al ((clS o (0, (pdP K dr sz al o (K + Mo) (us, by_, pl) (ns K sz)).2.1, (pdP K dr sz al o (K + Mo) (us, by_, pl) (ns K sz)).2.2.2) 56).2.1) ((pdP K dr sz al o (K + Mo) (us, by_, pl) (ns K sz)).2.2.1) (up (up ln o sz) o 0) ((clS o (0, (pdP K dr sz al o (K + Mo) (us, by_, pl) (ns K sz)).2.1, (pdP K dr sz al o (K + Mo) (us, by_, pl) (ns K sz)).2.2.2) 56).2.2) os ou rd sp' rw Y))) hx hsp hK hK4 hM ho ha hr hsz h0 hs0 hz (fun sp hsp => ⟨sp, hsp, ?_⟩)
  rw [hp]
  have hcl := con_R_clear (l := l) (P := P) (K := K) (Mo := Mo) (co := 2) (sz := sz) (os := os) (dr := dr) (al := al) (by_ := (pdP K dr sz al o (K + Mo) (us, by_, pl) (ns K sz)).2.2.1) (ln := up ln o sz) (ou := ou) (rd := rd) (sp := sp) (rw := rw) (Y := Y) hok.1 hok.2.2 ho
  generalize pdP K dr sz al o (K + Mo) (us, by_, pl) (ns K sz) = y at hcl ⊢
  generalize clS o (0, y.2.1, y.2.2.2) 56 = yy at hcl ⊢
  refine J.iload_n d_R_store_181 rfl rfl ?_
  refine J.if_neN d_R_store_182 (tgt := 198) (by decide) (by omega) (fun h => ?_) (fun h => ?_)
  · exact absurd rfl h
  · refine J.aload_n d_R_store_185 rfl rfl ?_
    refine J.iconst d_R_store_186 (v := nI 2) (by decide) ?_
    refine J.putfield d_R_store_187 (fs_R_59 _) rfl (Nat.le_of_ble_eq_true rfl) rfl rfl ?_
    refine J.aload_n d_R_store_190 rfl rfl ?_
    refine J.iload_n d_R_store_191 rfl rfl ?_
    refine J.v1i hcl k_R_store_R_clear d_R_store_192 rfl rfl rfl ?_
    refine J.pop d_R_store_195 rfl ?_
    refine J.iconst d_R_store_196 (v := nI 0) (by decide) ?_
    exact J.ireturn d_R_store_197 rfl (by decide) (by decide)
end REFSTORE
