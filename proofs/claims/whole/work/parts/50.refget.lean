/-! The reference's check and get -/
theorem anyB_add (p : Nat → Bool) (a : Nat) : ∀ b, anyB p (a + b) = (anyB p a || anyB (fun i => p (a + i)) b)
  | 0 => by show anyB p a = (anyB p a || false); rw [Bool.or_false]
  | b + 1 => by
    show (anyB p (a + b) || p (a + b)) = (anyB p a || (anyB (fun i => p (a + i)) b || p (a + b)))
    rw [anyB_add p a b, Bool.or_assoc]
theorem anyB_flat (f : Nat → Nat → Bool) : ∀ n, anyB (fun q => f (q / 4) (q % 4)) (4 * n) = anyB (fun h => anyB (f h) 4) n
  | 0 => rfl
  | n + 1 => by
    rw [show 4 * (n + 1) = 4 * n + 4 by omega, anyB_add, anyB_flat f n]
    show _ = (anyB _ n || anyB (f n) 4)
    congr 1
    exact anyB_congr 4 (fun i hi => by rw [show (4 * n + i) / 4 = n by omega, show (4 * n + i) % 4 = i by omega])
theorem anyB_and (b : Bool) (p : Nat → Bool) : ∀ n, anyB (fun t => b && p t) n = (b && anyB p n)
  | 0 => by cases b <;> rfl
  | n + 1 => by
    show (anyB _ n || (b && p n)) = (b && (anyB p n || p n))
    rw [anyB_and b p n]
    cases b <;> rfl
/-- byte q of the stripe is there, and wrong -/
def fl1 (K : Nat) (da by_ pl : Nat → Nat) (o s q : Nat) : Bool := !(lsB pl o s (q / 4)) && wr K da by_ (pl (56 * o + 7 * s + q / 4) - 1) (q / 4) (q % 4)
theorem fl1_ws (K : Nat) (da by_ pl : Nat → Nat) (o s n : Nat) : anyB (fl1 K da by_ pl o s) (4 * n) = anyB (ws1 K da by_ pl o s) n := by
  have := anyB_flat (fun h t => !(lsB pl o s h) && wr K da by_ (pl (56 * o + 7 * s + h) - 1) h t) n
  refine this.trans (anyB_congr n (fun h _ => ?_))
  unfold ws1
  exact anyB_and _ _ 4
section REFGET
variable {l : Launch} {P : Nat → va_E} {K Mo co sz os : Nat} {dr al us by_ ln pl ou rd sp rw : Nat → Nat} {Y : List va_E}
theorem lp_R_chk {o s c : Nat} (hK4 : K ≤ 4) (hM : Mo ≤ 3) (ho : o < 6) (hs : s < 8) (hp : ∀ i, pl i ≤ 80) (hby : ∀ i, by_ i < 256) (hsp : ∀ i, sp i < 256) {out : Out}
    (kk : J l i_R_check 137 [(0, .ref 15), (1, .int (nI o)), (2, .int (nI c)), (3, .int (nI s)), (4, .int (nI (b2n (anyB (fl1 K sp by_ pl o s) (4 * (K + Mo))))))] [] (RM P K Mo co dr sz al us by_ ln pl os ou rd sp rw Y) 0 0 out) : ∀ (j i : Nat), i + j = 4 * (K + Mo) →
    J l i_R_check 62 [(0, .ref 15), (1, .int (nI o)), (2, .int (nI c)), (3, .int (nI s)), (4, .int (nI (b2n (anyB (fl1 K sp by_ pl o s) i)))), (5, .int (nI i))] [] (RM P K Mo co dr sz al us by_ ln pl os ou rd sp rw Y) 0 0 out
  | 0, i, hi => by
    have hi' : i = 4 * (K + Mo) := by omega
    rw [hi']
    refine J.iload d_R_check_62 rfl ?_
    refine J.iconst d_R_check_64 (v := nI 4) (by decide) ?_
    refine J.aload_n d_R_check_65 rfl rfl ?_
    refine J.v0i con_R_shards k_R_check_R_shards d_R_check_66 rfl rfl rfl ?_
    refine J.imulN d_R_check_69 ?_
    refine J.icmp_geN d_R_check_70 (tgt := 137) (by decide) (by omega) (by omega) (fun h => ?_) (fun h => ?_)
    · exact J.sub [0, 1, 2, 3, 4] kk
    · omega
  | j + 1, i, hi => by
    have hS : K + Mo ≤ 7 := by omega
    have hbt : b2n true = 1 := rfl
    have hbf : b2n false = 0 := rfl
    have ih := lp_R_chk hK4 hM ho hs hp hby hsp kk j (i + 1) (by omega)
    have e : anyB (fl1 K sp by_ pl o s) (i + 1) = (anyB (fl1 K sp by_ pl o s) i || fl1 K sp by_ pl o s i) := rfl
    rw [e] at ih
    have hpi := hp (56 * o + 7 * s + i / 4)
    have hc := con_R_place (l := l) (P := P) (K := K) (Mo := Mo) (co := co) (sz := sz) (os := os) (dr := dr) (al := al) (us := us) (by_ := by_) (ln := ln) (pl := pl) (ou := ou) (rd := rd) (sp := sp) (rw := rw) (Y := Y) ho hs (show i / 4 < 7 by omega)
    have go : ∀ {w : Int32} (b : Bool), (anyB (fl1 K sp by_ pl o s) i || fl1 K sp by_ pl o s i) = b → J l i_R_check 129 [(0, .ref 15), (1, .int (nI o)), (2, .int (nI c)), (3, .int (nI s)), (4, .int (nI (b2n (anyB (fl1 K sp by_ pl o s) i)))), (5, .int (nI i)), (6, .int w)] [.int (nI (b2n b))] (RM P K Mo co dr sz al us by_ ln pl os ou rd sp rw Y) 0 0 out := by
      intro w b hb
      rw [hb] at ih
      refine J.istore d_R_check_129 (by decide) rfl ?_
      refine J.iincN d_R_check_131 rfl rfl (by decide) rfl ?_
      refine J.goto d_R_check_134 (tgt := 62) (by decide) ?_
      exact J.sub [0, 1, 2, 3, 4, 5] ih
    refine J.iload d_R_check_62 rfl ?_
    refine J.iconst d_R_check_64 (v := nI 4) (by decide) ?_
    refine J.aload_n d_R_check_65 rfl rfl ?_
    refine J.v0i con_R_shards k_R_check_R_shards d_R_check_66 rfl rfl rfl ?_
    refine J.imulN d_R_check_69 ?_
    refine J.icmp_geN d_R_check_70 (tgt := 137) (by decide) (by omega) (by omega) (fun h => ?_) (fun h => ?_)
    · omega
    refine J.aload_n d_R_check_73 rfl rfl ?_
    refine J.iload_n d_R_check_74 rfl rfl ?_
    refine J.iload_n d_R_check_75 rfl rfl ?_
    refine J.iload d_R_check_76 rfl ?_
    refine J.iconst d_R_check_78 (v := nI 4) (by decide) ?_
    refine J.idivN d_R_check_79 (by omega) (by omega) (by omega) ?_
    cases hz : anyB (fl1 K sp by_ pl o s) i with
    | true =>
      rw [hz] at go
      refine J.v3i hc k_R_check_R_place d_R_check_80 rfl rfl rfl ?_
      refine J.istore d_R_check_83 (by decide) rfl ?_
      refine J.iload d_R_check_85 rfl ?_
      refine J.if_neN d_R_check_87 (tgt := 124) (by decide) (by omega) (fun h3 => ?_) (fun h3 => ?_)
      · refine J.iconst d_R_check_124 (v := nI 1) (by decide) ?_
        refine J.goto d_R_check_125 (tgt := 129) (by decide) ?_
        exact go true (by rfl)
      · exact absurd h3 (by decide)
    | false =>
      rw [hz] at go
      rcases Nat.eq_zero_or_pos (pl (56 * o + 7 * s + i / 4)) with h0 | h0
      · have e3 : fl1 K sp by_ pl o s i = false := by simp [fl1, lsB, h0]
        rw [e3] at go
        refine J.v3i hc k_R_check_R_place d_R_check_80 rfl rfl rfl ?_
        refine J.istore d_R_check_83 (by decide) rfl ?_
        refine J.iload d_R_check_85 rfl ?_
        refine J.if_neN d_R_check_87 (tgt := 124) (by decide) (by omega) (fun h3 => ?_) (fun h3 => ?_)
        · exact absurd rfl h3
        refine J.iload d_R_check_90 rfl ?_
        refine J.if_ltP d_R_check_92 (tgt := 128) (by decide) (by omega) (fun _ => ?_) (fun q => absurd h0 (by omega))
        refine J.iconst d_R_check_128 (v := nI 0) (by decide) ?_
        exact go false rfl
      · obtain ⟨p, ep⟩ : ∃ p, pl (56 * o + 7 * s + i / 4) = p + 1 := ⟨pl (56 * o + 7 * s + i / 4) - 1, by omega⟩
        have e3 : fl1 K sp by_ pl o s i = decide (by_ (4 * p + i % 4) ≠ sb K sp (i / 4) (i % 4)) := by simp [fl1, lsB, wr, ep]
        rw [e3] at go
        have hb1 := hby (4 * p + i % 4)
        have hb2 := sb_lt (K := K) hsp (i / 4) (i % 4)
        rw [ep, pI_succ] at hc
        refine J.v3i hc k_R_check_R_place d_R_check_80 rfl rfl rfl ?_
        refine J.istore d_R_check_83 (by decide) rfl ?_
        refine J.iload d_R_check_85 rfl ?_
        refine J.if_neN d_R_check_87 (tgt := 124) (by decide) (by omega) (fun h3 => ?_) (fun h3 => ?_)
        · exact absurd rfl h3
        refine J.iload d_R_check_90 rfl ?_
        refine J.if_ltN d_R_check_92 (tgt := 128) (by decide) (by omega) (fun _ => ?_)
        refine J.aload_n d_R_check_95 rfl rfl ?_
        refine J.getfield d_R_check_96 fl_R_20 rfl rfl ?_
        refine J.iconst d_R_check_99 (v := nI 4) (by decide) ?_
        refine J.iload d_R_check_100 rfl ?_
        refine J.imulN d_R_check_102 ?_
        refine J.iload d_R_check_103 rfl ?_
        refine J.iconst d_R_check_105 (v := nI 4) (by decide) ?_
        refine J.iremN d_R_check_106 (by omega) (by omega) (by omega) ?_
        refine J.iaddN d_R_check_107 ?_
        refine J.ialoadN d_R_check_108 rfl (by omega) (by omega) ?_
        refine J.aload_n d_R_check_109 rfl rfl ?_
        refine J.iload d_R_check_110 rfl ?_
        refine J.iconst d_R_check_112 (v := nI 4) (by decide) ?_
        refine J.idivN d_R_check_113 (by omega) (by omega) (by omega) ?_
        refine J.iload d_R_check_114 rfl ?_
        refine J.iconst d_R_check_116 (v := nI 4) (by decide) ?_
        refine J.iremN d_R_check_117 (by omega) (by omega) (by omega) ?_
        refine J.v2i (con_R_worked hK4 hS (by omega) (by omega) hsp) k_R_check_R_worked d_R_check_118 rfl rfl rfl ?_
        refine J.icmp_eqN d_R_check_121 (tgt := 128) (by decide) (by omega) (by omega) (fun h4 => ?_) (fun h4 => ?_)
        · refine J.iconst d_R_check_128 (v := nI 0) (by decide) ?_
          exact go false (by simp [h4])
        · refine J.iconst d_R_check_124 (v := nI 1) (by decide) ?_
          refine J.goto d_R_check_125 (tgt := 129) (by decide) ?_
          exact go true (by simp [h4])
theorem lp_R_check {o : Nat} (hK : 0 < K) (hK4 : K ≤ 4) (hM0 : 0 < Mo) (hM : Mo ≤ 3) (ho : o < 6) (hp : ∀ i, pl i ≤ 80) (hby : ∀ i, by_ i < 256) (hln : ln o ≤ 32) : ∀ (j i : Nat), i + j = ns K (ln o) → ∀ z : ED, b256 z →
    ∃ z', b256 z' ∧ J l i_R_check 21 [(0, .ref 15), (1, .int (nI o)), (2, .int (nI (cs (ck1 K Mo pl by_ o) i))), (3, .int (nI i))] [] (RM P K Mo 0 dr sz al us by_ ln pl os ou rd (z.2) (z.1) Y) 0 0 (.inl (some (.int (nI (cs (ck1 K Mo pl by_ o) (ns K (ln o))))), (RM P K Mo 0 dr sz al us by_ ln pl os ou rd (z'.2) (z'.1) Y)))
  | 0, i, hi, z, hz => by
    have hn8 := ns_le hK hln
    have hi' : i = ns K (ln o) := by omega
    rw [hi']
    refine ⟨z, hz, ?_⟩
    refine J.aload_n d_R_check_21 rfl rfl ?_
    refine J.getfield d_R_check_22 fl_R_59 rfl rfl ?_
    refine J.if_neN d_R_check_25 (tgt := 156) (by decide) (by omega) (fun h0 => ?_) (fun h0 => ?_)
    · exact absurd rfl h0
    · refine J.iload_n d_R_check_28 rfl rfl ?_
      refine J.aload_n d_R_check_29 rfl rfl ?_
      refine J.iload_n d_R_check_30 rfl rfl ?_
      refine J.v1i (con_R_stripesOf ho hK hK4 (by omega)) k_R_check_R_stripesOf d_R_check_31 rfl rfl rfl ?_
      refine J.icmp_geN d_R_check_34 (tgt := 156) (by decide) (by omega) (by omega) (fun h => ?_) (fun h => ?_)
      · refine J.iload_n d_R_check_156 rfl rfl ?_
        exact J.ireturn d_R_check_157 rfl (by decide) (by decide)
      · omega
  | j + 1, i, hi, z, hz => by
    have hn8 := ns_le hK hln
    have hS : K + Mo ≤ 7 := by omega
    have hs8 : i < 8 := by omega
    have hbt : b2n true = 1 := rfl
    have hbf : b2n false = 0 := rfl
    have ih := lp_R_check hK hK4 hM0 hM ho hp hby hln j (i + 1) (by omega)
    have hle := cs1_le (f := ck1 K Mo pl by_ o) (fun s => by unfold ck1; split; omega; exact b2n_lt _) i
    have e : cs (ck1 K Mo pl by_ o) (i + 1) = cs (ck1 K Mo pl by_ o) i + ck1 K Mo pl by_ o i := rfl
    rw [e] at ih
    have hnl : nl pl o i (K + Mo) ≤ K + Mo := by
      unfold nl
      exact cs1_le (fun h => by unfold z1; split <;> omega) (K + Mo)
    by_cases hcd : Mo < nl pl o i (K + Mo)
    · have e1 : ck1 K Mo pl by_ o i = 0 := by unfold ck1; rw [if_pos hcd]
      rw [e1] at ih
      obtain ⟨z', hz', hJ⟩ := ih z hz
      refine ⟨z', hz', ?_⟩
      refine J.aload_n d_R_check_21 rfl rfl ?_
      refine J.getfield d_R_check_22 fl_R_59 rfl rfl ?_
      refine J.if_neN d_R_check_25 (tgt := 156) (by decide) (by omega) (fun h0 => ?_) (fun h0 => ?_)
      · exact absurd rfl h0
      · refine J.iload_n d_R_check_28 rfl rfl ?_
        refine J.aload_n d_R_check_29 rfl rfl ?_
        refine J.iload_n d_R_check_30 rfl rfl ?_
        refine J.v1i (con_R_stripesOf ho hK hK4 (by omega)) k_R_check_R_stripesOf d_R_check_31 rfl rfl rfl ?_
        refine J.icmp_geN d_R_check_34 (tgt := 156) (by decide) (by omega) (by omega) (fun h => ?_) (fun h => ?_)
        · omega
        refine J.iconst d_R_check_37 (v := nI 0) (by decide) ?_
        refine J.istore d_R_check_38 (by decide) rfl ?_
        refine J.aload_n d_R_check_40 rfl rfl ?_
        refine J.iload_n d_R_check_41 rfl rfl ?_
        refine J.iload_n d_R_check_42 rfl rfl ?_
        refine J.v2i (con_R_lost ho hs8 hS hp) k_R_check_R_lost d_R_check_43 rfl rfl rfl ?_
        refine J.aload_n d_R_check_46 rfl rfl ?_
        refine J.getfield d_R_check_47 fl_R_48 rfl rfl ?_
        refine J.icmp_gtN d_R_check_50 (tgt := 137) (by decide) (by omega) (by omega) (fun h3 => ?_) (fun h3 => ?_)
        · refine J.iload d_R_check_137 rfl ?_
          refine J.if_eqN d_R_check_139 (tgt := 148) (by decide) (by omega) (fun h4 => ?_) (fun h4 => ?_)
          · refine J.iload_n d_R_check_148 rfl rfl ?_
            refine J.istore_n d_R_check_149 rfl (by decide) rfl ?_
            refine J.iincN d_R_check_150 rfl rfl (by decide) rfl ?_
            refine J.goto d_R_check_153 (tgt := 21) (by decide) ?_
            exact J.sub [0, 1, 2, 3] hJ
          · exact absurd rfl h4
        · omega
    · obtain ⟨z1, hz1, he1, hC⟩ := con_R_rd (l := l) (P := P) (co := 0) (sz := sz) (os := os) (dr := dr) (al := al) (us := us) (ln := ln) (ou := ou) (rd := rd) (rw := z.1) (sp := z.2) (Y := Y) (s := i) hz ho hs8 hK hK4 hM0 hM hp hby (by omega)
      have e1 : ck1 K Mo pl by_ o i = b2n (anyB (fl1 K z1.2 by_ pl o i) (4 * (K + Mo))) := by
        unfold ck1
        rw [if_neg hcd, fl1_ws]
        congr 1
        exact anyB_congr _ (fun q _ => (ws1_congr he1 _ _ _ _ _).symm)
      rw [e1] at ih
      obtain ⟨z', hz', hJ⟩ := ih z1 hz1
      refine ⟨z', hz', ?_⟩
      refine J.aload_n d_R_check_21 rfl rfl ?_
      refine J.getfield d_R_check_22 fl_R_59 rfl rfl ?_
      refine J.if_neN d_R_check_25 (tgt := 156) (by decide) (by omega) (fun h0 => ?_) (fun h0 => ?_)
      · exact absurd rfl h0
      · refine J.iload_n d_R_check_28 rfl rfl ?_
        refine J.aload_n d_R_check_29 rfl rfl ?_
        refine J.iload_n d_R_check_30 rfl rfl ?_
        refine J.v1i (con_R_stripesOf ho hK hK4 (by omega)) k_R_check_R_stripesOf d_R_check_31 rfl rfl rfl ?_
        refine J.icmp_geN d_R_check_34 (tgt := 156) (by decide) (by omega) (by omega) (fun h => ?_) (fun h => ?_)
        · omega
        refine J.iconst d_R_check_37 (v := nI 0) (by decide) ?_
        refine J.istore d_R_check_38 (by decide) rfl ?_
        refine J.aload_n d_R_check_40 rfl rfl ?_
        refine J.iload_n d_R_check_41 rfl rfl ?_
        refine J.iload_n d_R_check_42 rfl rfl ?_
        refine J.v2i (con_R_lost ho hs8 hS hp) k_R_check_R_lost d_R_check_43 rfl rfl rfl ?_
        refine J.aload_n d_R_check_46 rfl rfl ?_
        refine J.getfield d_R_check_47 fl_R_48 rfl rfl ?_
        refine J.icmp_gtN d_R_check_50 (tgt := 137) (by decide) (by omega) (by omega) (fun h3 => ?_) (fun h3 => ?_)
        · omega
        refine J.aload_n d_R_check_53 rfl rfl ?_
        refine J.iload_n d_R_check_54 rfl rfl ?_
        refine J.iload_n d_R_check_55 rfl rfl ?_
        refine J.v2v hC k_R_check_R_readStripe d_R_check_56 rfl rfl rfl ?_
        refine J.iconst d_R_check_59 (v := nI 0) (by decide) ?_
        refine J.istore d_R_check_60 (by decide) rfl ?_
        refine lp_R_chk hK4 hM ho hs8 hp hby hz1.2 ?_ (4 * (K + Mo)) 0 (by omega)
        cases hz3 : anyB (fl1 K z1.2 by_ pl o i) (4 * (K + Mo)) with
        | true =>
          rw [hz3] at hJ
          refine J.iload d_R_check_137 rfl ?_
          refine J.if_eqN d_R_check_139 (tgt := 148) (by decide) (by omega) (fun h4 => ?_) (fun h4 => ?_)
          · exact absurd h4 (by decide)
          · refine J.iload_n d_R_check_142 rfl rfl ?_
            refine J.iconst d_R_check_143 (v := nI 1) (by decide) ?_
            refine J.iaddN d_R_check_144 ?_
            refine J.goto d_R_check_145 (tgt := 149) (by decide) ?_
            refine J.istore_n d_R_check_149 rfl (by decide) rfl ?_
            refine J.iincN d_R_check_150 rfl rfl (by decide) rfl ?_
            refine J.goto d_R_check_153 (tgt := 21) (by decide) ?_
            exact J.sub [0, 1, 2, 3] hJ
        | false =>
          rw [hz3] at hJ
          refine J.iload d_R_check_137 rfl ?_
          refine J.if_eqN d_R_check_139 (tgt := 148) (by decide) (by omega) (fun h4 => ?_) (fun h4 => ?_)
          · refine J.iload_n d_R_check_148 rfl rfl ?_
            refine J.istore_n d_R_check_149 rfl (by decide) rfl ?_
            refine J.iincN d_R_check_150 rfl rfl (by decide) rfl ?_
            refine J.goto d_R_check_153 (tgt := 21) (by decide) ?_
            exact J.sub [0, 1, 2, 3] hJ
          · exact absurd rfl h4
theorem con_R_check1 {o : Nat} (hz : b256 (rw, sp)) (hK : 0 < K) (hK4 : K ≤ 4) (hM0 : 0 < Mo) (hM : Mo ≤ 3) (ho : o < 6) (hp : ∀ i, pl i ≤ 80) (hby : ∀ i, by_ i < 256) (hl : 0 < ln o) (hln : ln o ≤ 32) : ∃ z' : ED, b256 z' ∧ Con l i_R_check [.ref 15, .int (nI o)] (RM P K Mo co dr sz al us by_ ln pl os ou rd sp rw Y) (.inl (some (.int (nI (cs (ck1 K Mo pl by_ o) (ns K (ln o))))), (RM P K Mo 0 dr sz al us by_ ln pl os ou rd (z'.2) (z'.1) Y))) := by
  obtain ⟨z', hz', hJ⟩ := lp_R_check (l := l) (P := P) (K := K) (Mo := Mo) (sz := sz) (os := os) (dr := dr) (al := al) (us := us) (ou := ou) (rd := rd) (Y := Y) hK hK4 hM0 hM ho hp hby hln (ns K (ln o)) 0 (by omega) (rw, sp) hz
  refine ⟨z', hz', Con.of ?_⟩
  refine J.aload_n d_R_check_0 rfl rfl ?_
  refine J.aload_n d_R_check_1 rfl rfl ?_
  refine J.iload_n d_R_check_2 rfl rfl ?_
  refine J.v1i (con_R_isThere1 ho hl hln) k_R_check_R_isThere d_R_check_3 rfl rfl rfl ?_
  refine J.if_eqN d_R_check_6 (tgt := 13) (by decide) (by omega) (fun h => ?_) (fun h => ?_)
  · exact absurd h (by decide)
  · refine J.iconst d_R_check_9 (v := nI 0) (by decide) ?_
    refine J.goto d_R_check_10 (tgt := 14) (by decide) ?_
    refine J.putfield d_R_check_14 (fs_R_59 _) rfl (Nat.le_of_ble_eq_true rfl) rfl rfl ?_
    refine J.iconst d_R_check_17 (v := nI 0) (by decide) ?_
    refine J.istore_n d_R_check_18 rfl (by decide) rfl ?_
    refine J.iconst d_R_check_19 (v := nI 0) (by decide) ?_
    refine J.istore_n d_R_check_20 rfl (by decide) rfl ?_
    exact hJ
theorem con_R_check0 {x : Int32} (hx : noO ln x) : Con l i_R_check [.ref 15, .int x] (RM P K Mo co dr sz al us by_ ln pl os ou rd sp rw Y) (.inl (some (.int (nI 0)), (RM P K Mo 1 dr sz al us by_ ln pl os ou rd sp rw Y))) := by
  refine Con.of ?_
  refine J.aload_n d_R_check_0 rfl rfl ?_
  refine J.aload_n d_R_check_1 rfl rfl ?_
  refine J.iload_n d_R_check_2 rfl rfl ?_
  refine J.v1i (con_R_isThere0 hx) k_R_check_R_isThere d_R_check_3 rfl rfl rfl ?_
  refine J.if_eqN d_R_check_6 (tgt := 13) (by decide) (by omega) (fun h => ?_) (fun h => ?_)
  · refine J.iconst d_R_check_13 (v := nI 1) (by decide) ?_
    refine J.putfield d_R_check_14 (fs_R_59 _) rfl (Nat.le_of_ble_eq_true rfl) rfl rfl ?_
    refine J.iconst d_R_check_17 (v := nI 0) (by decide) ?_
    refine J.istore_n d_R_check_18 rfl (by decide) rfl ?_
    refine J.iconst d_R_check_19 (v := nI 0) (by decide) ?_
    refine J.istore_n d_R_check_20 rfl (by decide) rfl ?_
    refine J.aload_n d_R_check_21 rfl rfl ?_
    refine J.getfield d_R_check_22 fl_R_59 rfl rfl ?_
    refine J.if_neN d_R_check_25 (tgt := 156) (by decide) (by omega) (fun h2 => ?_) (fun h2 => ?_)
    · refine J.iload_n d_R_check_156 rfl rfl ?_
      exact J.ireturn d_R_check_157 rfl (by decide) (by decide)
    · exact absurd h2 (by decide)
  · exact absurd rfl h
end REFGET
