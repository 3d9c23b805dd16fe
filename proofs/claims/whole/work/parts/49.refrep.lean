/-! The reference's repair and check -/
section REFREP
variable {l : Launch} {P : Nat → va_E} {K Mo co sz os : Nat} {dr al us by_ ln pl ou rd sp rw : Nat → Nat} {Y : List va_E}
theorem con_R_rd {o s : Nat} (hz : b256 (rw, sp)) (ho : o < 6) (hs : s < 8) (hK : 0 < K) (hK4 : K ≤ 4) (hM0 : 0 < Mo) (hM : Mo ≤ 3) (hp : ∀ i, pl i ≤ 80) (hby : ∀ i, by_ i < 256) (hn : nl pl o s (K + Mo) ≤ Mo) :
    ∃ z : ED, b256 z ∧ eq4 K z.2 (rdP K Mo pl by_ o s) ∧ Con l i_R_readStripe [.ref 15, .int (nI o), .int (nI s)] (RM P K Mo co dr sz al us by_ ln pl os ou rd sp rw Y) (.inl (none, (RM P K Mo co dr sz al us by_ ln pl os ou rd (z.2) (z.1) Y))) := by
  have hn' : cs (fun h => b2n (lsB pl o s h)) (K + Mo) ≤ Mo := by rw [← nl_ls]; exact hn
  exact ⟨_, rdR_b hz (fun _ _ => hby _) 4, fun i hi => rdR_eq hK hK4 hM0 hM hn' (fun _ _ => hby _) hz hi, con_R_readStripe hz.1 hz.2 ho hs hK4 (by omega) hp hby (fun r t => svOk_wr hK hK4 hM0 hM hn' r t)⟩
theorem lp_R_rep {o s c : Nat} {w : Int32} {x : U3} (hx : okU x) (hc : c ≤ 1000) (hK4 : K ≤ 4) (hM : Mo ≤ 3) (ho : o < 6) (hs : s < 8) (ha : ∀ i, al i < 2) (hsp : ∀ i, sp i < 256) {out : Out}
    (kk : J l i_R_repair 102 [(0, .ref 15), (1, .int (nI (c + (rpS K sp al o s (K + Mo) x (K + Mo)).1))), (2, .int (nI o)), (3, .int (nI s))] [] (RM P K Mo co dr sz al ((rpS K sp al o s (K + Mo) x (K + Mo)).2.1) ((rpS K sp al o s (K + Mo) x (K + Mo)).2.2.1) ln ((rpS K sp al o s (K + Mo) x (K + Mo)).2.2.2) os ou rd sp rw Y) 0 0 out) : ∀ (j i : Nat), i + j = K + Mo →
    J l i_R_repair 57 [(0, .ref 15), (1, .int (nI (c + (rpS K sp al o s (K + Mo) x i).1))), (2, .int (nI o)), (3, .int (nI s)), (4, .int w), (5, .int (nI i))] [] (RM P K Mo co dr sz al ((rpS K sp al o s (K + Mo) x i).2.1) ((rpS K sp al o s (K + Mo) x i).2.2.1) ln ((rpS K sp al o s (K + Mo) x i).2.2.2) os ou rd sp rw Y) 0 0 out
  | 0, i, hi => by
    have hi' : i = K + Mo := by omega
    rw [hi']
    refine J.iload d_R_repair_57 rfl ?_
    refine J.aload_n d_R_repair_59 rfl rfl ?_
    refine J.v0i con_R_shards k_R_repair_R_shards d_R_repair_60 rfl rfl rfl ?_
    refine J.icmp_geN d_R_repair_63 (tgt := 102) (by decide) (by omega) (by omega) (fun h => ?_) (fun h => ?_)
    · exact J.sub [0, 1, 2, 3] kk
    · omega
  | j + 1, i, hi => by
    have hS : K + Mo ≤ 7 := by omega
    have hok := rpS_ok (K := K) (al := al) (o := o) (s := s) (Sh := K + Mo) hx hsp i
    have ih := lp_R_rep (w := w) hx hc hK4 hM ho hs ha hsp kk j (i + 1) (by omega)
    have hpi := hok.1.2.2 (56 * o + 7 * s + i)
    refine J.iload d_R_repair_57 rfl ?_
    refine J.aload_n d_R_repair_59 rfl rfl ?_
    refine J.v0i con_R_shards k_R_repair_R_shards d_R_repair_60 rfl rfl rfl ?_
    refine J.icmp_geN d_R_repair_63 (tgt := 102) (by decide) (by omega) (by omega) (fun h => ?_) (fun h => ?_)
    · omega
    refine J.aload_n d_R_repair_66 rfl rfl ?_
    refine J.iload_n d_R_repair_67 rfl rfl ?_
    refine J.iload_n d_R_repair_68 rfl rfl ?_
    refine J.iload d_R_repair_69 rfl ?_
    refine J.v3i (con_R_place ho hs (by omega)) k_R_repair_R_place d_R_repair_71 rfl rfl rfl ?_
    refine J.if_geP d_R_repair_74 (tgt := 94) (by decide) (by omega) (fun q => ?_) (fun q => ?_)
    · have e : rpS K sp al o s (K + Mo) x (i + 1) = rpS K sp al o s (K + Mo) x i := by
        show (if _ then _ else _) = _
        rw [if_neg (by omega)]
      rw [e] at ih
      refine J.iload_n d_R_repair_94 rfl rfl ?_
      refine J.istore_n d_R_repair_95 rfl (by decide) rfl ?_
      refine J.iincN d_R_repair_96 rfl rfl (by decide) rfl ?_
      refine J.goto d_R_repair_99 (tgt := 57) (by decide) ?_
      exact ih
    · have q0 : (rpS K sp al o s (K + Mo) x i).2.2.2 (56 * o + 7 * s + i) = 0 := by omega
      refine J.aload_n d_R_repair_77 rfl rfl ?_
      refine J.iload_n d_R_repair_78 rfl rfl ?_
      refine J.iload_n d_R_repair_79 rfl rfl ?_
      refine J.iload d_R_repair_80 rfl ?_
      by_cases hg : gp al (rpS K sp al o s (K + Mo) x i).2.1 (rpS K sp al o s (K + Mo) x i).2.2.2 o s (K + Mo) = 0
      · have e : rpS K sp al o s (K + Mo) x (i + 1) = rpS K sp al o s (K + Mo) x i := by
          show (if _ then _ else _) = _
          rw [if_neg (fun z => z.2 hg)]
        rw [e] at ih
        refine J.v3i (con_R_lay0 ho hs hS hok.1.2.2 hok.1.1 ha hg) k_R_repair_R_lay d_R_repair_82 rfl rfl rfl ?_
        refine J.if_eqN d_R_repair_85 (tgt := 94) (by decide) (by omega) (fun h3 => ?_) (fun h3 => ?_)
        · refine J.iload_n d_R_repair_94 rfl rfl ?_
          refine J.istore_n d_R_repair_95 rfl (by decide) rfl ?_
          refine J.iincN d_R_repair_96 rfl rfl (by decide) rfl ?_
          refine J.goto d_R_repair_99 (tgt := 57) (by decide) ?_
          exact ih
        · exact absurd rfl h3
      · have e : rpS K sp al o s (K + Mo) x (i + 1) = ((rpS K sp al o s (K + Mo) x i).1 + 1, layU K sp al o s (K + Mo) i (rpS K sp al o s (K + Mo) x i).2) := by
          show (if _ then _ else _) = _
          rw [if_pos ⟨q0, hg⟩]
        rw [e] at ih
        refine J.v3i (con_R_lay ho hs hK4 hS (by omega) hok.1.2.2 hok.1.1 ha hsp hg) k_R_repair_R_lay d_R_repair_82 rfl rfl rfl ?_
        refine J.if_eqN d_R_repair_85 (tgt := 94) (by decide) (by omega) (fun h3 => ?_) (fun h3 => ?_)
        · exact absurd h3 (by decide)
        · have hle := hok.2
          refine J.iload_n d_R_repair_88 rfl rfl ?_
          refine J.iconst d_R_repair_89 (v := nI 1) (by decide) ?_
          refine J.iaddN d_R_repair_90 ?_
          refine J.goto d_R_repair_91 (tgt := 95) (by decide) ?_
          refine J.istore_n d_R_repair_95 rfl (by decide) rfl ?_
          refine J.iincN d_R_repair_96 rfl rfl (by decide) rfl ?_
          refine J.goto d_R_repair_99 (tgt := 57) (by decide) ?_
          exact ih
theorem lp_R_rpt {o : Nat} {x : Nat × U3} (hx : okU x.2) (hc : x.1 ≤ 900) (hK : 0 < K) (hK4 : K ≤ 4) (hM0 : 0 < Mo) (hM : Mo ≤ 3) (ho : o < 6) (ha : ∀ i, al i < 2) (hln : ln o ≤ 32) {out : ED → Out}
    (kk : ∀ z : ED, b256 z → ∃ z', b256 z' ∧ J l i_R_repair 108 [(0, .ref 15), (1, .int (nI (rtP K Mo al o x (ns K (ln o))).1)), (2, .int (nI o))] [] (RM P K Mo co dr sz al ((rtP K Mo al o x (ns K (ln o))).2.1) ((rtP K Mo al o x (ns K (ln o))).2.2.1) ln ((rtP K Mo al o x (ns K (ln o))).2.2.2) os ou rd (z.2) (z.1) Y) 0 0 (out z')) : ∀ (j i : Nat), i + j = ns K (ln o) → ∀ z : ED, b256 z →
    ∃ z', b256 z' ∧ J l i_R_repair 17 [(0, .ref 15), (1, .int (nI (rtP K Mo al o x i).1)), (2, .int (nI o)), (3, .int (nI i))] [] (RM P K Mo co dr sz al ((rtP K Mo al o x i).2.1) ((rtP K Mo al o x i).2.2.1) ln ((rtP K Mo al o x i).2.2.2) os ou rd (z.2) (z.1) Y) 0 0 (out z')
  | 0, i, hi, z, hz => by
    have hn8 := ns_le hK hln
    have hi' : i = ns K (ln o) := by omega
    rw [hi']
    obtain ⟨z', hz', hJ⟩ := kk z hz
    refine ⟨z', hz', ?_⟩
    refine J.iload_n d_R_repair_17 rfl rfl ?_
    refine J.aload_n d_R_repair_18 rfl rfl ?_
    refine J.iload_n d_R_repair_19 rfl rfl ?_
    refine J.v1i (con_R_stripesOf ho hK hK4 (by omega)) k_R_repair_R_stripesOf d_R_repair_20 rfl rfl rfl ?_
    refine J.icmp_geN d_R_repair_23 (tgt := 108) (by decide) (by omega) (by omega) (fun h => ?_) (fun h => ?_)
    · exact J.sub [0, 1, 2] hJ
    · omega
  | j + 1, i, hi, z, hz => by
    have hn8 := ns_le hK hln
    have hS : K + Mo ≤ 7 := by omega
    have hs8 : i < 8 := by omega
    have hok := rtP_ok (al := al) (o := o) hK hK4 hM0 hM hx i
    have h7 : i * (K + Mo) ≤ 8 * 7 := Nat.mul_le_mul (by omega) hS
    have ih := lp_R_rpt hx hc hK hK4 hM0 hM ho ha hln kk j (i + 1) (by omega)
    have e : rtP K Mo al o x (i + 1) = rqP K Mo al o i (rtP K Mo al o x i) := rfl
    rw [e] at ih
    generalize rtP K Mo al o x i = y at hok ih ⊢
    unfold rqP at ih
    have hnl : nl y.2.2.2 o i (K + Mo) ≤ K + Mo := by
      unfold nl
      exact cs1_le (fun h => by unfold z1; split <;> omega) (K + Mo)
    by_cases hcd : Mo < nl y.2.2.2 o i (K + Mo) ∨ nl y.2.2.2 o i (K + Mo) = 0
    · rw [if_pos hcd] at ih
      obtain ⟨z', hz', hJ⟩ := ih z hz
      refine ⟨z', hz', ?_⟩
      have fin : ∀ {w : Value}, J l i_R_repair 102 [(0, .ref 15), (1, .int (nI y.1)), (2, .int (nI o)), (3, .int (nI i)), (4, w)] [] (RM P K Mo co dr sz al (y.2.1) (y.2.2.1) ln (y.2.2.2) os ou rd (z.2) (z.1) Y) 0 0 (out z') := by
        intro w
        refine J.iincN d_R_repair_102 rfl rfl (by decide) rfl ?_
        refine J.goto d_R_repair_105 (tgt := 17) (by decide) ?_
        exact J.sub [0, 1, 2, 3] hJ
      refine J.iload_n d_R_repair_17 rfl rfl ?_
      refine J.aload_n d_R_repair_18 rfl rfl ?_
      refine J.iload_n d_R_repair_19 rfl rfl ?_
      refine J.v1i (con_R_stripesOf ho hK hK4 (by omega)) k_R_repair_R_stripesOf d_R_repair_20 rfl rfl rfl ?_
      refine J.icmp_geN d_R_repair_23 (tgt := 108) (by decide) (by omega) (by omega) (fun h => ?_) (fun h => ?_)
      · omega
      refine J.aload_n d_R_repair_26 rfl rfl ?_
      refine J.iload_n d_R_repair_27 rfl rfl ?_
      refine J.iload_n d_R_repair_28 rfl rfl ?_
      refine J.v2i (con_R_lost ho hs8 hS hok.1.2.2) k_R_repair_R_lost d_R_repair_29 rfl rfl rfl ?_
      refine J.istore d_R_repair_32 (by decide) rfl ?_
      refine J.iload d_R_repair_34 rfl ?_
      refine J.if_leN d_R_repair_36 (tgt := 102) (by decide) (by omega) (fun h3 => ?_) (fun h3 => ?_)
      · exact fin
      refine J.iload d_R_repair_39 rfl ?_
      refine J.aload_n d_R_repair_41 rfl rfl ?_
      refine J.getfield d_R_repair_42 fl_R_48 rfl rfl ?_
      refine J.icmp_gtN d_R_repair_45 (tgt := 102) (by decide) (by omega) (by omega) (fun h4 => ?_) (fun h4 => ?_)
      · exact fin
      · omega
    · rw [if_neg hcd] at ih
      obtain ⟨z1, hz1, he1, hC⟩ := con_R_rd (l := l) (P := P) (co := co) (sz := sz) (os := os) (dr := dr) (al := al) (us := y.2.1) (ln := ln) (ou := ou) (rd := rd) (rw := z.1) (sp := z.2) (Y := Y) (s := i) hz ho hs8 hK hK4 hM0 hM hok.1.2.2 hok.1.2.1 (by omega)
      rw [← rpS_congr he1] at ih
      obtain ⟨z', hz', hJ⟩ := ih z1 hz1
      refine ⟨z', hz', ?_⟩
      refine J.iload_n d_R_repair_17 rfl rfl ?_
      refine J.aload_n d_R_repair_18 rfl rfl ?_
      refine J.iload_n d_R_repair_19 rfl rfl ?_
      refine J.v1i (con_R_stripesOf ho hK hK4 (by omega)) k_R_repair_R_stripesOf d_R_repair_20 rfl rfl rfl ?_
      refine J.icmp_geN d_R_repair_23 (tgt := 108) (by decide) (by omega) (by omega) (fun h => ?_) (fun h => ?_)
      · omega
      refine J.aload_n d_R_repair_26 rfl rfl ?_
      refine J.iload_n d_R_repair_27 rfl rfl ?_
      refine J.iload_n d_R_repair_28 rfl rfl ?_
      refine J.v2i (con_R_lost ho hs8 hS hok.1.2.2) k_R_repair_R_lost d_R_repair_29 rfl rfl rfl ?_
      refine J.istore d_R_repair_32 (by decide) rfl ?_
      refine J.iload d_R_repair_34 rfl ?_
      refine J.if_leN d_R_repair_36 (tgt := 102) (by decide) (by omega) (fun h3 => ?_) (fun h3 => ?_)
      · omega
      refine J.iload d_R_repair_39 rfl ?_
      refine J.aload_n d_R_repair_41 rfl rfl ?_
      refine J.getfield d_R_repair_42 fl_R_48 rfl rfl ?_
      refine J.icmp_gtN d_R_repair_45 (tgt := 102) (by decide) (by omega) (by omega) (fun h4 => ?_) (fun h4 => ?_)
      · omega
      refine J.aload_n d_R_repair_48 rfl rfl ?_
      refine J.iload_n d_R_repair_49 rfl rfl ?_
      refine J.iload_n d_R_repair_50 rfl rfl ?_
      refine J.v2v hC k_R_repair_R_readStripe d_R_repair_51 rfl rfl rfl ?_
      refine J.iconst d_R_repair_54 (v := nI 0) (by decide) ?_
      refine J.istore d_R_repair_55 (by decide) rfl ?_
      have h2 := lp_R_rep (l := l) (P := P) (K := K) (Mo := Mo) (co := co) (sz := sz) (os := os) (dr := dr) (al := al) (ln := ln) (ou := ou) (rd := rd) (sp := z1.2) (rw := z1.1) (Y := Y) (o := o) (s := i) (c := y.1) (w := nI (nl y.2.2.2 o i (K + Mo))) (x := y.2) (out := out z') hok.1 (by omega) hK4 hM ho hs8 ha hz1.2 ?_ (K + Mo) 0 (by omega)
      · exact h2
      · refine J.iincN d_R_repair_102 rfl rfl (by decide) rfl ?_
        refine J.goto d_R_repair_105 (tgt := 17) (by decide) ?_
        exact hJ
theorem lp_R_rpo {x : Nat × U3} (hx : okU x.2) (hc : x.1 = 0) (hK : 0 < K) (hK4 : K ≤ 4) (hM0 : 0 < Mo) (hM : Mo ≤ 3) (ha : ∀ i, al i < 2) (hln : ∀ o, ln o ≤ 32) : ∀ (j i : Nat), i + j = 6 → ∀ z : ED, b256 z →
    ∃ z', b256 z' ∧ J l i_R_repair 9 [(0, .ref 15), (1, .int (nI (roP K Mo al ln x i).1)), (2, .int (nI i))] [] (RM P K Mo co dr sz al ((roP K Mo al ln x i).2.1) ((roP K Mo al ln x i).2.2.1) ln ((roP K Mo al ln x i).2.2.2) os ou rd (z.2) (z.1) Y) 0 0 (.inl (some (.int (nI (roP K Mo al ln x 6).1)), (RM P K Mo co dr sz al ((roP K Mo al ln x 6).2.1) ((roP K Mo al ln x 6).2.2.1) ln ((roP K Mo al ln x 6).2.2.2) os ou rd (z'.2) (z'.1) Y)))
  | 0, i, hi, z, hz => by
    have hi' : i = 6 := by omega
    rw [hi']
    refine ⟨z, hz, ?_⟩
    generalize roP K Mo al ln x 6 = y
    refine J.iload_n d_R_repair_9 rfl rfl ?_
    refine J.bipush d_R_repair_10 (v := nI 6) (by decide) ?_
    refine J.icmp_geN d_R_repair_12 (tgt := 114) (by decide) (by omega) (by omega) (fun h => ?_) (fun h => ?_)
    · refine J.iload_n d_R_repair_114 rfl rfl ?_
      exact J.ireturn d_R_repair_115 rfl (by decide) (by decide)
    · omega
  | j + 1, i, hi, z, hz => by
    have hok := roP_ok (al := al) hK hK4 hM0 hM hln hx i
    have ih := lp_R_rpo hx hc hK hK4 hM0 hM ha hln j (i + 1) (by omega)
    have e : roP K Mo al ln x (i + 1) = rtP K Mo al i (roP K Mo al ln x i) (ns K (ln i)) := rfl
    rw [e] at ih
    generalize roP K Mo al ln x i = y at hok ih ⊢
    generalize roP K Mo al ln x 6 = yy at ih ⊢
    obtain ⟨z', hz', hJ⟩ := lp_R_rpt (l := l) (P := P) (K := K) (Mo := Mo) (co := co) (sz := sz) (os := os) (dr := dr) (al := al) (ln := ln) (ou := ou) (rd := rd) (Y := Y) (o := i) (x := y) (out := fun z' => .inl (some (.int (nI yy.1)), (RM P K Mo co dr sz al (yy.2.1) (yy.2.2.1) ln (yy.2.2.2) os ou rd (z'.2) (z'.1) Y))) hok.1 (by omega) hK hK4 hM0 hM (by omega) ha (hln i) (fun z hz => by
      obtain ⟨z', hz', hJ⟩ := ih z hz
      refine ⟨z', hz', ?_⟩
      refine J.iincN d_R_repair_108 rfl rfl (by decide) rfl ?_
      refine J.goto d_R_repair_111 (tgt := 9) (by decide) ?_
      exact hJ) (ns K (ln i)) 0 (by omega) z hz
    refine ⟨z', hz', ?_⟩
    refine J.iload_n d_R_repair_9 rfl rfl ?_
    refine J.bipush d_R_repair_10 (v := nI 6) (by decide) ?_
    refine J.icmp_geN d_R_repair_12 (tgt := 114) (by decide) (by omega) (by omega) (fun h => ?_) (fun h => ?_)
    · omega
    refine J.iconst d_R_repair_15 (v := nI 0) (by decide) ?_
    refine J.istore_n d_R_repair_16 rfl (by decide) rfl ?_
    exact hJ
theorem con_R_repair (hx : okU (us, by_, pl)) (hz : b256 (rw, sp)) (hK : 0 < K) (hK4 : K ≤ 4) (hM0 : 0 < Mo) (hM : Mo ≤ 3) (ha : ∀ i, al i < 2) (hln : ∀ o, ln o ≤ 32) : ∃ z' : ED, b256 z' ∧ Con l i_R_repair [.ref 15] (RM P K Mo co dr sz al us by_ ln pl os ou rd sp rw Y) (.inl (some (.int (nI (roP K Mo al ln (0, us, by_, pl) 6).1)), (RM P K Mo 0 dr sz al ((roP K Mo al ln (0, us, by_, pl) 6).2.1) ((roP K Mo al ln (0, us, by_, pl) 6).2.2.1) ln ((roP K Mo al ln (0, us, by_, pl) 6).2.2.2) os ou rd (z'.2) (z'.1) Y))) := by
  obtain ⟨z', hz', hJ⟩ := lp_R_rpo (l := l) (P := P) (K := K) (Mo := Mo) (co := 0) (sz := sz) (os := os) (dr := dr) (al := al) (ln := ln) (ou := ou) (rd := rd) (Y := Y) (x := (0, us, by_, pl)) hx rfl hK hK4 hM0 hM ha hln 6 0 (by omega) (rw, sp) hz
  refine ⟨z', hz', Con.of ?_⟩
  refine J.aload_n d_R_repair_0 rfl rfl ?_
  refine J.iconst d_R_repair_1 (v := nI 0) (by decide) ?_
  refine J.putfield d_R_repair_2 (fs_R_59 _) rfl (Nat.le_of_ble_eq_true rfl) rfl rfl ?_
  refine J.iconst d_R_repair_5 (v := nI 0) (by decide) ?_
  refine J.istore_n d_R_repair_6 rfl (by decide) rfl ?_
  refine J.iconst d_R_repair_7 (v := nI 0) (by decide) ?_
  refine J.istore_n d_R_repair_8 rfl (by decide) rfl ?_
  exact hJ
end REFREP
