/-! The reference's get, product, fail -/
section REFGET2
variable {l : Launch} {P : Nat → va_E} {K Mo co sz os : Nat} {dr al us by_ ln pl ou rd sp rw : Nat → Nat} {Y : List va_E}
/-- what is read, with the stripe's first n data, below m -/
def gc (K : Nat) (da rd : Nat → Nat) (s m n : Nat) : Nat → Nat := fun q => if s * (4 * K) ≤ q ∧ q < s * (4 * K) + n ∧ q < m then da (q - s * (4 * K)) else rd q
theorem gc_0 (K : Nat) (da rd : Nat → Nat) (s m : Nat) : gc K da rd s m 0 = rd := by
  funext q; unfold gc; rw [if_neg (by omega)]
theorem gc_up {K : Nat} {da rd : Nat → Nat} {s m n : Nat} (h : s * (4 * K) + n < m) : up (gc K da rd s m n) (s * (4 * K) + n) (da n) = gc K da rd s m (n + 1) := by
  funext q
  by_cases hq : q = s * (4 * K) + n
  · subst hq
    rw [up_self]; unfold gc
    rw [if_pos (by omega), Nat.add_sub_cancel_left]
  · rw [up_ne _ _ hq]; unfold gc
    have : (s * (4 * K) ≤ q ∧ q < s * (4 * K) + (n + 1) ∧ q < m) ↔ (s * (4 * K) ≤ q ∧ q < s * (4 * K) + n ∧ q < m) := by omega
    simp only [this]
theorem gc_end {K : Nat} {da rd : Nat → Nat} {s m n n' : Nat} (h : m ≤ s * (4 * K) + n) (hm : n ≤ n') : gc K da rd s m n = gc K da rd s m n' := by
  funext q; unfold gc
  have : (s * (4 * K) ≤ q ∧ q < s * (4 * K) + n ∧ q < m) ↔ (s * (4 * K) ≤ q ∧ q < s * (4 * K) + n' ∧ q < m) := by omega
  simp only [this]
theorem lp_R_gcp {o s n : Nat} (hK4 : K ≤ 4) (hs : s < 8) (hn : n ≤ 32) {out : Out}
    (kk : J l i_R_get 128 [(0, .ref 15), (1, .int (nI o)), (2, .int (nI n)), (3, .int (nI s))] [] (RM P K Mo co dr sz al us by_ ln pl os ou (gc K sp rd s n (4 * K)) sp rw Y) 0 0 out) : ∀ (j i : Nat), i + j = 4 * K →
    J l i_R_get 73 [(0, .ref 15), (1, .int (nI o)), (2, .int (nI n)), (3, .int (nI s)), (4, .int (nI i))] [] (RM P K Mo co dr sz al us by_ ln pl os ou (gc K sp rd s n i) sp rw Y) 0 0 out
  | 0, i, hi => by
    have hi' : i = 4 * K := by omega
    rw [hi']
    refine J.iload d_R_get_73 rfl ?_
    refine J.iconst d_R_get_75 (v := nI 4) (by decide) ?_
    refine J.aload_n d_R_get_76 rfl rfl ?_
    refine J.getfield d_R_get_77 fl_R_44 rfl rfl ?_
    refine J.imulN d_R_get_80 ?_
    refine J.icmp_geN d_R_get_81 (tgt := 128) (by decide) (by omega) (by omega) (fun h => ?_) (fun h => ?_)
    · exact J.sub [0, 1, 2, 3] kk
    · omega
  | j + 1, i, hi => by
    have h1 : s * (4 * K) ≤ 8 * (4 * 4) := Nat.mul_le_mul (by omega) (by omega)
    have ec : 4 * K * s = s * (4 * K) := Nat.mul_comm _ _
    have ih := lp_R_gcp (o := o) hK4 hs hn kk j (i + 1) (by omega)
    refine J.iload d_R_get_73 rfl ?_
    refine J.iconst d_R_get_75 (v := nI 4) (by decide) ?_
    refine J.aload_n d_R_get_76 rfl rfl ?_
    refine J.getfield d_R_get_77 fl_R_44 rfl rfl ?_
    refine J.imulN d_R_get_80 ?_
    refine J.icmp_geN d_R_get_81 (tgt := 128) (by decide) (by omega) (by omega) (fun h => ?_) (fun h => ?_)
    · omega
    refine J.iconst d_R_get_84 (v := nI 4) (by decide) ?_
    refine J.aload_n d_R_get_85 rfl rfl ?_
    refine J.getfield d_R_get_86 fl_R_44 rfl rfl ?_
    refine J.imulN d_R_get_89 ?_
    refine J.iload_n d_R_get_90 rfl rfl ?_
    refine J.imulN d_R_get_91 ?_
    refine J.iload d_R_get_92 rfl ?_
    refine J.iaddN d_R_get_94 ?_
    refine J.iload_n d_R_get_95 rfl rfl ?_
    refine J.icmp_geN d_R_get_96 (tgt := 128) (by decide) (by omega) (by omega) (fun h2 => ?_) (fun h2 => ?_)
    · rw [gc_end (n' := 4 * K) (by omega) (by omega)]
      exact J.sub [0, 1, 2, 3] kk
    · rw [← gc_up (by omega), ← ec] at ih
      refine J.aload_n d_R_get_99 rfl rfl ?_
      refine J.getfield d_R_get_100 fl_R_35 rfl rfl ?_
      refine J.iconst d_R_get_103 (v := nI 4) (by decide) ?_
      refine J.aload_n d_R_get_104 rfl rfl ?_
      refine J.getfield d_R_get_105 fl_R_44 rfl rfl ?_
      refine J.imulN d_R_get_108 ?_
      refine J.iload_n d_R_get_109 rfl rfl ?_
      refine J.imulN d_R_get_110 ?_
      refine J.iload d_R_get_111 rfl ?_
      refine J.iaddN d_R_get_113 ?_
      refine J.aload_n d_R_get_114 rfl rfl ?_
      refine J.getfield d_R_get_115 fl_R_38 rfl rfl ?_
      refine J.iload d_R_get_118 rfl ?_
      refine J.ialoadN d_R_get_120 rfl (by omega) (by omega) ?_
      refine J.iastoreN d_R_get_121 rfl (by omega) (by omega) ?_
      refine J.iincN d_R_get_122 rfl rfl (by decide) rfl ?_
      refine J.goto d_R_get_125 (tgt := 73) (by decide) ?_
      exact ih
theorem lp_R_gout {o n : Nat} {w : Int32} {g : Nat → Nat} (hn : n ≤ 32) (hrd : ∀ q, q < n → rd q = g q) : ∀ (j i : Nat), i + j = n → ∀ ou : Nat → Nat, (∀ q, q < i → ou q = g q) →
    ∃ ou' : Nat → Nat, (∀ q, q < n → ou' q = g q) ∧ J l i_R_get 141 [(0, .ref 15), (1, .int (nI o)), (2, .int (nI n)), (3, .int (nI i))] [] (RM P K Mo co dr sz al us by_ ln pl os ou rd sp rw Y) 0 0 (.inl (some (.int (nI n)), (RM P K Mo co dr sz al us by_ ln pl os ou' rd sp rw Y)))
  | 0, i, hi, ou, hou => by
    have hi' : i = n := by omega
    subst hi'
    refine ⟨ou, hou, ?_⟩
    refine J.iload_n d_R_get_141 rfl rfl ?_
    refine J.iload_n d_R_get_142 rfl rfl ?_
    refine J.icmp_geN d_R_get_143 (tgt := 164) (by decide) (by omega) (by omega) (fun h => ?_) (fun h => ?_)
    · refine J.iload_n d_R_get_164 rfl rfl ?_
      exact J.ireturn d_R_get_165 rfl (by decide) (by decide)
    · omega
  | j + 1, i, hi, ou, hou => by
    obtain ⟨ou', h1, hJ⟩ := lp_R_gout (o := o) (w := w) hn hrd j (i + 1) (by omega) (up ou i (rd i)) (fun q hq => by
      by_cases e : q = i
      · rw [e, up_self, hrd i (by omega)]
      · rw [up_ne _ _ e]; exact hou q (by omega))
    refine ⟨ou', h1, ?_⟩
    refine J.iload_n d_R_get_141 rfl rfl ?_
    refine J.iload_n d_R_get_142 rfl rfl ?_
    refine J.icmp_geN d_R_get_143 (tgt := 164) (by decide) (by omega) (by omega) (fun h => ?_) (fun h => ?_)
    · omega
    refine J.aload_n d_R_get_146 rfl rfl ?_
    refine J.getfield d_R_get_147 fl_R_32 rfl rfl ?_
    refine J.iload_n d_R_get_150 rfl rfl ?_
    refine J.aload_n d_R_get_151 rfl rfl ?_
    refine J.getfield d_R_get_152 fl_R_35 rfl rfl ?_
    refine J.iload_n d_R_get_155 rfl rfl ?_
    refine J.ialoadN d_R_get_156 rfl (by omega) (by omega) ?_
    refine J.iastoreN d_R_get_157 rfl (by omega) (by omega) ?_
    refine J.iincN d_R_get_158 rfl rfl (by decide) rfl ?_
    refine J.goto d_R_get_161 (tgt := 141) (by decide) ?_
    exact hJ
theorem lp_R_get1 {o : Nat} (hK : 0 < K) (hK4 : K ≤ 4) (hM0 : 0 < Mo) (hM : Mo ≤ 3) (ho : o < 6) (hp : ∀ i, pl i ≤ 80) (hby : ∀ i, by_ i < 256) (hln : ln o ≤ 32) (hng : anyB (gn pl Mo o (K + Mo)) (ns K (ln o)) = false) : ∀ (j i : Nat), i + j = ns K (ln o) → ∀ (z : ED) (rd : Nat → Nat), b256 z → (∀ q, q < ln o → q < i * (4 * K) → rd q = otP K Mo pl by_ o q) →
    ∃ (z' : ED) (rd' ou' : Nat → Nat), b256 z' ∧ (∀ q, q < ln o → ou' q = otP K Mo pl by_ o q) ∧ J l i_R_get 35 [(0, .ref 15), (1, .int (nI o)), (2, .int (nI (ln o))), (3, .int (nI i))] [] (RM P K Mo co dr sz al us by_ ln pl os ou rd (z.2) (z.1) Y) 0 0 (.inl (some (.int (nI (ln o))), (RM P K Mo co dr sz al us by_ ln pl (ln o) ou' rd' (z'.2) (z'.1) Y)))
  | 0, i, hi, z, rd, hz, hrd => by
    have hn8 := ns_le hK hln
    have hi' : i = ns K (ln o) := by omega
    have hcv := ns_cover (n := ln o) hK
    rw [hi'] at hrd ⊢
    obtain ⟨ou', h1, hJ⟩ := lp_R_gout (l := l) (P := P) (K := K) (Mo := Mo) (co := co) (sz := sz) (os := ln o) (dr := dr) (al := al) (us := us) (by_ := by_) (ln := ln) (pl := pl) (rd := rd) (sp := z.2) (rw := z.1) (Y := Y) (o := o) (w := 0) (g := otP K Mo pl by_ o) hln (fun q hq => hrd q hq (by omega)) (ln o) 0 (by omega) ou (fun q hq => absurd hq (Nat.not_lt_zero _))
    refine ⟨z, rd, ou', hz, h1, ?_⟩
    refine J.iload_n d_R_get_35 rfl rfl ?_
    refine J.aload_n d_R_get_36 rfl rfl ?_
    refine J.iload_n d_R_get_37 rfl rfl ?_
    refine J.v1i (con_R_stripesOf ho hK hK4 (by omega)) k_R_get_R_stripesOf d_R_get_38 rfl rfl rfl ?_
    refine J.icmp_geN d_R_get_41 (tgt := 134) (by decide) (by omega) (by omega) (fun h => ?_) (fun h => ?_)
    · refine J.aload_n d_R_get_134 rfl rfl ?_
      refine J.iload_n d_R_get_135 rfl rfl ?_
      refine J.putfield d_R_get_136 (fs_R_118 _) rfl (Nat.le_of_ble_eq_true rfl) rfl rfl ?_
      refine J.iconst d_R_get_139 (v := nI 0) (by decide) ?_
      refine J.istore_n d_R_get_140 rfl (by decide) rfl ?_
      exact hJ
    · omega
  | j + 1, i, hi, z, rd, hz, hrd => by
    have hn8 := ns_le hK hln
    have hS : K + Mo ≤ 7 := by omega
    have hs8 : i < 8 := by omega
    have hg := anyB_false _ hng i (by omega)
    have hnl : nl pl o i (K + Mo) ≤ Mo := by simpa [gn] using hg
    obtain ⟨z1, hz1, he1, hC⟩ := con_R_rd (l := l) (P := P) (co := co) (sz := sz) (os := os) (dr := dr) (al := al) (us := us) (ln := ln) (ou := ou) (rd := rd) (rw := z.1) (sp := z.2) (Y := Y) (s := i) hz ho hs8 hK hK4 hM0 hM hp hby hnl
    have eg : ∀ q, q < 4 * K → i * (4 * K) + q < ln o → z1.2 q = otP K Mo pl by_ o (i * (4 * K) + q) := fun q hq _ => by
      rw [he1 q hq]; unfold otP; rw [dm_div hq, dm_mod hq]
    obtain ⟨z', rd', ou', hz', h1, hJ⟩ := lp_R_get1 hK hK4 hM0 hM ho hp hby hln hng j (i + 1) (by omega) z1 (gc K z1.2 rd i (ln o) (4 * K)) hz1 (fun q hq hq2 => by
      rw [Nat.succ_mul] at hq2
      unfold gc
      by_cases h : i * (4 * K) ≤ q
      · rw [if_pos ⟨h, hq2, hq⟩, eg (q - i * (4 * K)) (by omega) (by omega), show i * (4 * K) + (q - i * (4 * K)) = q by omega]
      · rw [if_neg (fun z => h z.1)]
        exact hrd q hq (by omega))
    refine ⟨z', rd', ou', hz', h1, ?_⟩
    refine J.iload_n d_R_get_35 rfl rfl ?_
    refine J.aload_n d_R_get_36 rfl rfl ?_
    refine J.iload_n d_R_get_37 rfl rfl ?_
    refine J.v1i (con_R_stripesOf ho hK hK4 (by omega)) k_R_get_R_stripesOf d_R_get_38 rfl rfl rfl ?_
    refine J.icmp_geN d_R_get_41 (tgt := 134) (by decide) (by omega) (by omega) (fun h => ?_) (fun h => ?_)
    · omega
    refine J.aload_n d_R_get_44 rfl rfl ?_
    refine J.iload_n d_R_get_45 rfl rfl ?_
    refine J.iload_n d_R_get_46 rfl rfl ?_
    refine J.v2i (con_R_lost ho hs8 hS hp) k_R_get_R_lost d_R_get_47 rfl rfl rfl ?_
    refine J.aload_n d_R_get_50 rfl rfl ?_
    refine J.getfield d_R_get_51 fl_R_48 rfl rfl ?_
    refine J.icmp_leN d_R_get_54 (tgt := 64) (by decide) (by omega) (by omega) (fun h3 => ?_) (fun h3 => ?_)
    · refine J.aload_n d_R_get_64 rfl rfl ?_
      refine J.iload_n d_R_get_65 rfl rfl ?_
      refine J.iload_n d_R_get_66 rfl rfl ?_
      refine J.v2v hC k_R_get_R_readStripe d_R_get_67 rfl rfl rfl ?_
      refine J.iconst d_R_get_70 (v := nI 0) (by decide) ?_
      refine J.istore d_R_get_71 (by decide) rfl ?_
      have h5 := lp_R_gcp (l := l) (P := P) (K := K) (Mo := Mo) (co := co) (sz := sz) (os := os) (dr := dr) (al := al) (us := us) (by_ := by_) (ln := ln) (pl := pl) (ou := ou) (rd := rd) (sp := z1.2) (rw := z1.1) (Y := Y) (o := o) (s := i) (n := ln o) (out := .inl (some (.int (nI (ln o))), (RM P K Mo co dr sz al us by_ ln pl (ln o) ou' rd' (z'.2) (z'.1) Y))) hK4 hs8 hln ?_ (4 * K) 0 (by omega)
      · rw [gc_0] at h5
        exact h5
      · refine J.iincN d_R_get_128 rfl rfl (by decide) rfl ?_
        refine J.goto d_R_get_131 (tgt := 35) (by decide) ?_
        exact hJ
    · omega
theorem lp_R_get2 {o : Nat} (hK : 0 < K) (hK4 : K ≤ 4) (hM0 : 0 < Mo) (hM : Mo ≤ 3) (ho : o < 6) (hp : ∀ i, pl i ≤ 80) (hby : ∀ i, by_ i < 256) (hln : ln o ≤ 32) : ∀ (j i : Nat), i + j = ns K (ln o) → (∃ s, i ≤ s ∧ s < ns K (ln o) ∧ Mo < nl pl o s (K + Mo)) → ∀ (z : ED) (rd : Nat → Nat), b256 z →
    ∃ (z' : ED) (rd' : Nat → Nat), b256 z' ∧ J l i_R_get 35 [(0, .ref 15), (1, .int (nI o)), (2, .int (nI (ln o))), (3, .int (nI i))] [] (RM P K Mo co dr sz al us by_ ln pl os ou rd (z.2) (z.1) Y) 0 0 (.inl (some (.int (nI 0)), (RM P K Mo 2 dr sz al us by_ ln pl os ou rd' (z'.2) (z'.1) Y)))
  | 0, i, hi, hex, z, rd, hz => by
    obtain ⟨s, h1, h2, _⟩ := hex
    omega
  | j + 1, i, hi, hex, z, rd, hz => by
    have hn8 := ns_le hK hln
    have hS : K + Mo ≤ 7 := by omega
    have hs8 : i < 8 := by omega
    have hnl : nl pl o i (K + Mo) ≤ K + Mo := by
      unfold nl
      exact cs1_le (fun h => by unfold z1; split <;> omega) (K + Mo)
    by_cases hg : Mo < nl pl o i (K + Mo)
    · refine ⟨z, rd, hz, ?_⟩
      refine J.iload_n d_R_get_35 rfl rfl ?_
      refine J.aload_n d_R_get_36 rfl rfl ?_
      refine J.iload_n d_R_get_37 rfl rfl ?_
      refine J.v1i (con_R_stripesOf ho hK hK4 (by omega)) k_R_get_R_stripesOf d_R_get_38 rfl rfl rfl ?_
      refine J.icmp_geN d_R_get_41 (tgt := 134) (by decide) (by omega) (by omega) (fun h => ?_) (fun h => ?_)
      · omega
      refine J.aload_n d_R_get_44 rfl rfl ?_
      refine J.iload_n d_R_get_45 rfl rfl ?_
      refine J.iload_n d_R_get_46 rfl rfl ?_
      refine J.v2i (con_R_lost ho hs8 hS hp) k_R_get_R_lost d_R_get_47 rfl rfl rfl ?_
      refine J.aload_n d_R_get_50 rfl rfl ?_
      refine J.getfield d_R_get_51 fl_R_48 rfl rfl ?_
      refine J.icmp_leN d_R_get_54 (tgt := 64) (by decide) (by omega) (by omega) (fun h3 => ?_) (fun h3 => ?_)
      · omega
      · refine J.aload_n d_R_get_57 rfl rfl ?_
        refine J.iconst d_R_get_58 (v := nI 2) (by decide) ?_
        refine J.putfield d_R_get_59 (fs_R_59 _) rfl (Nat.le_of_ble_eq_true rfl) rfl rfl ?_
        refine J.iconst d_R_get_62 (v := nI 0) (by decide) ?_
        exact J.ireturn d_R_get_63 rfl (by decide) (by decide)
    · have hex' : ∃ s, i + 1 ≤ s ∧ s < ns K (ln o) ∧ Mo < nl pl o s (K + Mo) := by
        obtain ⟨s, h1, h2, h3⟩ := hex
        refine ⟨s, ?_, h2, h3⟩
        rcases Nat.lt_or_ge i s with q | q
        · exact q
        · have : s = i := by omega
          rw [this] at h3; exact absurd h3 hg
      obtain ⟨z1, hz1, he1, hC⟩ := con_R_rd (l := l) (P := P) (co := co) (sz := sz) (os := os) (dr := dr) (al := al) (us := us) (ln := ln) (ou := ou) (rd := rd) (rw := z.1) (sp := z.2) (Y := Y) (s := i) hz ho hs8 hK hK4 hM0 hM hp hby (by omega)
      obtain ⟨z', rd', hz', hJ⟩ := lp_R_get2 hK hK4 hM0 hM ho hp hby hln j (i + 1) (by omega) hex' z1 (gc K z1.2 rd i (ln o) (4 * K)) hz1
      refine ⟨z', rd', hz', ?_⟩
      refine J.iload_n d_R_get_35 rfl rfl ?_
      refine J.aload_n d_R_get_36 rfl rfl ?_
      refine J.iload_n d_R_get_37 rfl rfl ?_
      refine J.v1i (con_R_stripesOf ho hK hK4 (by omega)) k_R_get_R_stripesOf d_R_get_38 rfl rfl rfl ?_
      refine J.icmp_geN d_R_get_41 (tgt := 134) (by decide) (by omega) (by omega) (fun h => ?_) (fun h => ?_)
      · omega
      refine J.aload_n d_R_get_44 rfl rfl ?_
      refine J.iload_n d_R_get_45 rfl rfl ?_
      refine J.iload_n d_R_get_46 rfl rfl ?_
      refine J.v2i (con_R_lost ho hs8 hS hp) k_R_get_R_lost d_R_get_47 rfl rfl rfl ?_
      refine J.aload_n d_R_get_50 rfl rfl ?_
      refine J.getfield d_R_get_51 fl_R_48 rfl rfl ?_
      refine J.icmp_leN d_R_get_54 (tgt := 64) (by decide) (by omega) (by omega) (fun h3 => ?_) (fun h3 => ?_)
      · refine J.aload_n d_R_get_64 rfl rfl ?_
        refine J.iload_n d_R_get_65 rfl rfl ?_
        refine J.iload_n d_R_get_66 rfl rfl ?_
        refine J.v2v hC k_R_get_R_readStripe d_R_get_67 rfl rfl rfl ?_
        refine J.iconst d_R_get_70 (v := nI 0) (by decide) ?_
        refine J.istore d_R_get_71 (by decide) rfl ?_
        have h5 := lp_R_gcp (l := l) (P := P) (K := K) (Mo := Mo) (co := co) (sz := sz) (os := os) (dr := dr) (al := al) (us := us) (by_ := by_) (ln := ln) (pl := pl) (ou := ou) (rd := rd) (sp := z1.2) (rw := z1.1) (Y := Y) (o := o) (s := i) (n := ln o) (out := .inl (some (.int (nI 0)), (RM P K Mo 2 dr sz al us by_ ln pl os ou rd' (z'.2) (z'.1) Y))) hK4 hs8 hln ?_ (4 * K) 0 (by omega)
        · rw [gc_0] at h5
          exact h5
        · refine J.iincN d_R_get_128 rfl rfl (by decide) rfl ?_
          refine J.goto d_R_get_131 (tgt := 35) (by decide) ?_
          exact hJ
      · omega
theorem anyB_ex {p : Nat → Bool} : ∀ n, anyB p n = true → ∃ i, i < n ∧ p i = true
  | 0, h => Bool.noConfusion (show false = true from h)
  | n + 1, h => by
    have h' : (anyB p n || p n) = true := h
    rw [Bool.or_eq_true] at h'
    rcases h' with q | q
    · obtain ⟨i, hi, e⟩ := anyB_ex n q
      exact ⟨i, by omega, e⟩
    · exact ⟨n, by omega, q⟩
theorem con_R_get1 {o : Nat} (hz : b256 (rw, sp)) (hK : 0 < K) (hK4 : K ≤ 4) (hM0 : 0 < Mo) (hM : Mo ≤ 3) (ho : o < 6) (hp : ∀ i, pl i ≤ 80) (hby : ∀ i, by_ i < 256) (hl : 0 < ln o) (hln : ln o ≤ 32) (hng : anyB (gn pl Mo o (K + Mo)) (ns K (ln o)) = false) :
    ∃ (z' : ED) (rd' ou' : Nat → Nat), b256 z' ∧ (∀ q, q < ln o → ou' q = otP K Mo pl by_ o q) ∧ Con l i_R_get [.ref 15, .int (nI o)] (RM P K Mo co dr sz al us by_ ln pl os ou rd sp rw Y) (.inl (some (.int (nI (ln o))), (RM P K Mo 0 dr sz al us by_ ln pl (ln o) ou' rd' (z'.2) (z'.1) Y))) := by
  obtain ⟨z', rd', ou', hz', h1, hJ⟩ := lp_R_get1 (l := l) (P := P) (K := K) (Mo := Mo) (co := 0) (sz := sz) (os := os) (dr := dr) (al := al) (us := us) (ou := ou) (Y := Y) hK hK4 hM0 hM ho hp hby hln hng (ns K (ln o)) 0 (by omega) (rw, sp) rd hz (fun q _ hq => by rw [Nat.zero_mul] at hq; exact absurd hq (Nat.not_lt_zero _))
  refine ⟨z', rd', ou', hz', h1, Con.of ?_⟩
  refine J.aload_n d_R_get_0 rfl rfl ?_
  refine J.aload_n d_R_get_1 rfl rfl ?_
  refine J.iload_n d_R_get_2 rfl rfl ?_
  refine J.v1i (con_R_isThere1 ho hl hln) k_R_get_R_isThere d_R_get_3 rfl rfl rfl ?_
  refine J.if_eqN d_R_get_6 (tgt := 13) (by decide) (by omega) (fun h => ?_) (fun h => ?_)
  · exact absurd h (by decide)
  · refine J.iconst d_R_get_9 (v := nI 0) (by decide) ?_
    refine J.goto d_R_get_10 (tgt := 14) (by decide) ?_
    refine J.putfield d_R_get_14 (fs_R_59 _) rfl (Nat.le_of_ble_eq_true rfl) rfl rfl ?_
    refine J.aload_n d_R_get_17 rfl rfl ?_
    refine J.getfield d_R_get_18 fl_R_59 rfl rfl ?_
    refine J.if_leN d_R_get_21 (tgt := 26) (by decide) (by omega) (fun h2 => ?_) (fun h2 => ?_)
    · refine J.aload_n d_R_get_26 rfl rfl ?_
      refine J.getfield d_R_get_27 fl_R_23 rfl rfl ?_
      refine J.iload_n d_R_get_30 rfl rfl ?_
      refine J.ialoadN d_R_get_31 rfl (by omega) (by omega) ?_
      refine J.istore_n d_R_get_32 rfl (by decide) rfl ?_
      refine J.iconst d_R_get_33 (v := nI 0) (by decide) ?_
      refine J.istore_n d_R_get_34 rfl (by decide) rfl ?_
      exact hJ
    · exact absurd h2 (by decide)
theorem con_R_get2 {o : Nat} (hz : b256 (rw, sp)) (hK : 0 < K) (hK4 : K ≤ 4) (hM0 : 0 < Mo) (hM : Mo ≤ 3) (ho : o < 6) (hp : ∀ i, pl i ≤ 80) (hby : ∀ i, by_ i < 256) (hl : 0 < ln o) (hln : ln o ≤ 32) (hg : anyB (gn pl Mo o (K + Mo)) (ns K (ln o)) = true) :
    ∃ (z' : ED) (rd' : Nat → Nat), b256 z' ∧ Con l i_R_get [.ref 15, .int (nI o)] (RM P K Mo co dr sz al us by_ ln pl os ou rd sp rw Y) (.inl (some (.int (nI 0)), (RM P K Mo 2 dr sz al us by_ ln pl os ou rd' (z'.2) (z'.1) Y))) := by
  obtain ⟨s, hs, es⟩ := anyB_ex _ hg
  obtain ⟨z', rd', hz', hJ⟩ := lp_R_get2 (l := l) (P := P) (K := K) (Mo := Mo) (co := 0) (sz := sz) (os := os) (dr := dr) (al := al) (us := us) (ou := ou) (Y := Y) hK hK4 hM0 hM ho hp hby hln (ns K (ln o)) 0 (by omega) ⟨s, Nat.zero_le _, hs, by simpa [gn] using es⟩ (rw, sp) rd hz
  refine ⟨z', rd', hz', Con.of ?_⟩
  refine J.aload_n d_R_get_0 rfl rfl ?_
  refine J.aload_n d_R_get_1 rfl rfl ?_
  refine J.iload_n d_R_get_2 rfl rfl ?_
  refine J.v1i (con_R_isThere1 ho hl hln) k_R_get_R_isThere d_R_get_3 rfl rfl rfl ?_
  refine J.if_eqN d_R_get_6 (tgt := 13) (by decide) (by omega) (fun h => ?_) (fun h => ?_)
  · exact absurd h (by decide)
  · refine J.iconst d_R_get_9 (v := nI 0) (by decide) ?_
    refine J.goto d_R_get_10 (tgt := 14) (by decide) ?_
    refine J.putfield d_R_get_14 (fs_R_59 _) rfl (Nat.le_of_ble_eq_true rfl) rfl rfl ?_
    refine J.aload_n d_R_get_17 rfl rfl ?_
    refine J.getfield d_R_get_18 fl_R_59 rfl rfl ?_
    refine J.if_leN d_R_get_21 (tgt := 26) (by decide) (by omega) (fun h2 => ?_) (fun h2 => ?_)
    · refine J.aload_n d_R_get_26 rfl rfl ?_
      refine J.getfield d_R_get_27 fl_R_23 rfl rfl ?_
      refine J.iload_n d_R_get_30 rfl rfl ?_
      refine J.ialoadN d_R_get_31 rfl (by omega) (by omega) ?_
      refine J.istore_n d_R_get_32 rfl (by decide) rfl ?_
      refine J.iconst d_R_get_33 (v := nI 0) (by decide) ?_
      refine J.istore_n d_R_get_34 rfl (by decide) rfl ?_
      exact hJ
    · exact absurd h2 (by decide)
theorem con_R_get0 {x : Int32} (hx : noO ln x) : Con l i_R_get [.ref 15, .int x] (RM P K Mo co dr sz al us by_ ln pl os ou rd sp rw Y) (.inl (some (.int (nI 0)), (RM P K Mo 1 dr sz al us by_ ln pl os ou rd sp rw Y))) := by
  refine Con.of ?_
  refine J.aload_n d_R_get_0 rfl rfl ?_
  refine J.aload_n d_R_get_1 rfl rfl ?_
  refine J.iload_n d_R_get_2 rfl rfl ?_
  refine J.v1i (con_R_isThere0 hx) k_R_get_R_isThere d_R_get_3 rfl rfl rfl ?_
  refine J.if_eqN d_R_get_6 (tgt := 13) (by decide) (by omega) (fun h => ?_) (fun h => ?_)
  · refine J.iconst d_R_get_13 (v := nI 1) (by decide) ?_
    refine J.putfield d_R_get_14 (fs_R_59 _) rfl (Nat.le_of_ble_eq_true rfl) rfl rfl ?_
    refine J.aload_n d_R_get_17 rfl rfl ?_
    refine J.getfield d_R_get_18 fl_R_59 rfl rfl ?_
    refine J.if_leN d_R_get_21 (tgt := 26) (by decide) (by omega) (fun h2 => ?_) (fun h2 => ?_)
    · exact absurd h2 (by decide)
    · refine J.iconst d_R_get_24 (v := nI 0) (by decide) ?_
      exact J.ireturn d_R_get_25 rfl (by decide) (by decide)
  · exact absurd rfl h
theorem nI_m1 {b : Nat} (hb : b < 2 ^ 30) : ¬ nI b < pI 0 := by
  rw [Int32.lt_iff_toInt_lt, nI_toInt (by omega), pI_toInt (by decide)]
  omega
theorem con_R_prod1 {a b : Nat} (ha : a < 256) (hb : b < 256) : Con l i_R_product [.ref 15, .int (nI a), .int (nI b)] (RM P K Mo co dr sz al us by_ ln pl os ou rd sp rw Y) (.inl (some (.int (nI (gm a b))), (RM P K Mo 0 dr sz al us by_ ln pl os ou rd sp rw Y))) := by
  refine Con.of ?_
  refine J.aload_n d_R_product_0 rfl rfl ?_
  refine J.iload_n d_R_product_1 rfl rfl ?_
  refine J.if_ltN d_R_product_2 (tgt := 24) (by decide) (by omega) (fun _ => ?_)
  refine J.iload_n d_R_product_5 rfl rfl ?_
  refine J.sipush d_R_product_6 (v := nI 255) (by decide) ?_
  refine J.icmp_gtN d_R_product_9 (tgt := 24) (by decide) (by omega) (by omega) (fun h => ?_) (fun h => ?_)
  · omega
  refine J.iload_n d_R_product_12 rfl rfl ?_
  refine J.iconst d_R_product_13 (v := pI 0) (by decide) ?_
  refine J.icmp_lt d_R_product_14 (tgt := 24) (by decide) (fun z => absurd z (nI_m1 (by omega))) (fun _ => ?_)
  refine J.iload_n d_R_product_17 rfl rfl ?_
  refine J.sipush d_R_product_18 (v := nI 255) (by decide) ?_
  refine J.icmp_leN d_R_product_21 (tgt := 28) (by decide) (by omega) (by omega) (fun h2 => ?_) (fun h2 => ?_)
  · refine J.iload_n d_R_product_28 rfl rfl ?_
    refine J.iconst d_R_product_29 (v := pI 0) (by decide) ?_
    refine J.icmp_neK d_R_product_30 (tgt := 41) (by decide) (by omega) ?_
    refine J.iconst d_R_product_41 (v := nI 0) (by decide) ?_
    refine J.putfield d_R_product_42 (fs_R_59 _) rfl (Nat.le_of_ble_eq_true rfl) rfl rfl ?_
    refine J.aload_n d_R_product_45 rfl rfl ?_
    refine J.getfield d_R_product_46 fl_R_59 rfl rfl ?_
    refine J.if_leN d_R_product_49 (tgt := 54) (by decide) (by omega) (fun h3 => ?_) (fun h3 => ?_)
    · refine J.iload_n d_R_product_54 rfl rfl ?_
      refine J.if_geN d_R_product_55 (tgt := 65) (by decide) (by omega) (fun _ => ?_)
      refine J.iload_n d_R_product_65 rfl rfl ?_
      refine J.iload_n d_R_product_66 rfl rfl ?_
      refine J.s2i (con_R_times ha hb _) k_R_product_R_times d_R_product_67 rfl ?_
      exact J.ireturn d_R_product_70 rfl (by decide) (by decide)
    · exact absurd h3 (by decide)
  · omega
theorem con_R_prodI {a : Nat} (h0 : 0 < a) (ha : a < 256) : Con l i_R_product [.ref 15, .int (nI a), .int (pI 0)] (RM P K Mo co dr sz al us by_ ln pl os ou rd sp rw Y) (.inl (some (.int (nI (gi a))), (RM P K Mo 0 dr sz al us by_ ln pl os ou rd sp rw Y))) := by
  refine Con.of ?_
  refine J.aload_n d_R_product_0 rfl rfl ?_
  refine J.iload_n d_R_product_1 rfl rfl ?_
  refine J.if_ltN d_R_product_2 (tgt := 24) (by decide) (by omega) (fun _ => ?_)
  refine J.iload_n d_R_product_5 rfl rfl ?_
  refine J.sipush d_R_product_6 (v := nI 255) (by decide) ?_
  refine J.icmp_gtN d_R_product_9 (tgt := 24) (by decide) (by omega) (by omega) (fun h => ?_) (fun h => ?_)
  · omega
  refine J.iload_n d_R_product_12 rfl rfl ?_
  refine J.iconst d_R_product_13 (v := pI 0) (by decide) ?_
  refine J.icmp_lt d_R_product_14 (tgt := 24) (by decide) (fun z => absurd z (by decide)) (fun _ => ?_)
  refine J.iload_n d_R_product_17 rfl rfl ?_
  refine J.sipush d_R_product_18 (v := nI 255) (by decide) ?_
  refine J.icmp_le d_R_product_21 (tgt := 28) (by decide) (fun _ => ?_) (fun z => absurd (by decide : pI 0 ≤ nI 255) z)
  refine J.iload_n d_R_product_28 rfl rfl ?_
  refine J.iconst d_R_product_29 (v := pI 0) (by decide) ?_
  refine J.icmp_ne d_R_product_30 (tgt := 41) (by decide) (fun z => absurd rfl z) (fun _ => ?_)
  refine J.iload_n d_R_product_33 rfl rfl ?_
  refine J.if_neN d_R_product_34 (tgt := 41) (by decide) (by omega) (fun h4 => ?_) (fun h4 => ?_)
  · refine J.iconst d_R_product_41 (v := nI 0) (by decide) ?_
    refine J.putfield d_R_product_42 (fs_R_59 _) rfl (Nat.le_of_ble_eq_true rfl) rfl rfl ?_
    refine J.aload_n d_R_product_45 rfl rfl ?_
    refine J.getfield d_R_product_46 fl_R_59 rfl rfl ?_
    refine J.if_leN d_R_product_49 (tgt := 54) (by decide) (by omega) (fun h3 => ?_) (fun h3 => ?_)
    · refine J.iload_n d_R_product_54 rfl rfl ?_
      refine J.if_ge d_R_product_55 (tgt := 65) (by decide) (fun z => absurd z (by decide)) (fun _ => ?_)
      refine J.iload_n d_R_product_58 rfl rfl ?_
      refine J.s1i (con_R_inverse h0 ha _) k_R_product_R_inverse d_R_product_59 rfl ?_
      refine J.goto d_R_product_62 (tgt := 70) (by decide) ?_
      exact J.ireturn d_R_product_70 rfl (by decide) (by decide)
    · exact absurd h3 (by decide)
  · omega
theorem con_R_prod2 : Con l i_R_product [.ref 15, .int (nI 0), .int (pI 0)] (RM P K Mo co dr sz al us by_ ln pl os ou rd sp rw Y) (.inl (some (.int (nI 0)), (RM P K Mo 2 dr sz al us by_ ln pl os ou rd sp rw Y))) := by
  refine Con.of ?_
  refine J.aload_n d_R_product_0 rfl rfl ?_
  refine J.iload_n d_R_product_1 rfl rfl ?_
  refine J.if_ltN d_R_product_2 (tgt := 24) (by decide) (by omega) (fun _ => ?_)
  refine J.iload_n d_R_product_5 rfl rfl ?_
  refine J.sipush d_R_product_6 (v := nI 255) (by decide) ?_
  refine J.icmp_gtN d_R_product_9 (tgt := 24) (by decide) (by omega) (by omega) (fun h => ?_) (fun h => ?_)
  · omega
  refine J.iload_n d_R_product_12 rfl rfl ?_
  refine J.iconst d_R_product_13 (v := pI 0) (by decide) ?_
  refine J.icmp_lt d_R_product_14 (tgt := 24) (by decide) (fun z => absurd z (by decide)) (fun _ => ?_)
  refine J.iload_n d_R_product_17 rfl rfl ?_
  refine J.sipush d_R_product_18 (v := nI 255) (by decide) ?_
  refine J.icmp_le d_R_product_21 (tgt := 28) (by decide) (fun _ => ?_) (fun z => absurd (by decide : pI 0 ≤ nI 255) z)
  refine J.iload_n d_R_product_28 rfl rfl ?_
  refine J.iconst d_R_product_29 (v := pI 0) (by decide) ?_
  refine J.icmp_ne d_R_product_30 (tgt := 41) (by decide) (fun z => absurd rfl z) (fun _ => ?_)
  refine J.iload_n d_R_product_33 rfl rfl ?_
  refine J.if_neN d_R_product_34 (tgt := 41) (by decide) (by omega) (fun h4 => ?_) (fun h4 => ?_)
  · exact absurd rfl h4
  · refine J.iconst d_R_product_37 (v := nI 2) (by decide) ?_
    refine J.goto d_R_product_38 (tgt := 42) (by decide) ?_
    refine J.putfield d_R_product_42 (fs_R_59 _) rfl (Nat.le_of_ble_eq_true rfl) rfl rfl ?_
    refine J.aload_n d_R_product_45 rfl rfl ?_
    refine J.getfield d_R_product_46 fl_R_59 rfl rfl ?_
    refine J.if_leN d_R_product_49 (tgt := 54) (by decide) (by omega) (fun h3 => ?_) (fun h3 => ?_)
    · exact absurd h3 (by decide)
    · refine J.iconst d_R_product_52 (v := nI 0) (by decide) ?_
      exact J.ireturn d_R_product_53 rfl (by decide) (by decide)
theorem con_R_prod0 {a b : Int32} (hx : noP a b) : Con l i_R_product [.ref 15, .int a, .int b] (RM P K Mo co dr sz al us by_ ln pl os ou rd sp rw Y) (.inl (some (.int (nI 0)), (RM P K Mo 1 dr sz al us by_ ln pl os ou rd sp rw Y))) := by
  have fin : ∀ {lv}, J l i_R_product 24 ((0, .ref 15) :: lv) [.ref 15] (RM P K Mo co dr sz al us by_ ln pl os ou rd sp rw Y) 0 0 (.inl (some (.int (nI 0)), (RM P K Mo 1 dr sz al us by_ ln pl os ou rd sp rw Y))) := by
    intro lv
    refine J.iconst d_R_product_24 (v := nI 1) (by decide) ?_
    refine J.goto d_R_product_25 (tgt := 42) (by decide) ?_
    refine J.putfield d_R_product_42 (fs_R_59 _) rfl (Nat.le_of_ble_eq_true rfl) rfl rfl ?_
    refine J.aload_n d_R_product_45 rfl rfl ?_
    refine J.getfield d_R_product_46 fl_R_59 rfl rfl ?_
    refine J.if_leN d_R_product_49 (tgt := 54) (by decide) (by omega) (fun h3 => ?_) (fun h3 => ?_)
    · exact absurd h3 (by decide)
    · refine J.iconst d_R_product_52 (v := nI 0) (by decide) ?_
      exact J.ireturn d_R_product_53 rfl (by decide) (by decide)
  refine Con.of ?_
  refine J.aload_n d_R_product_0 rfl rfl ?_
  refine J.iload_n d_R_product_1 rfl rfl ?_
  refine J.if_lt d_R_product_2 (tgt := 24) (by decide) (fun _ => fin) (fun h1 => ?_)
  refine J.iload_n d_R_product_5 rfl rfl ?_
  refine J.sipush d_R_product_6 (v := nI 255) (by decide) ?_
  refine J.icmp_gt d_R_product_9 (tgt := 24) (by decide) (fun _ => fin) (fun h2 => ?_)
  rcases hx with hx | ⟨⟨a', ha, rfl⟩, hb, hne⟩
  · rcases hx with z | z
    · exact absurd z h1
    · exact absurd (gt_of_ge (a := 255) rfl (by decide) z) h2
  · refine J.iload_n d_R_product_12 rfl rfl ?_
    refine J.iconst d_R_product_13 (v := pI 0) (by decide) ?_
    refine J.icmp_lt d_R_product_14 (tgt := 24) (by decide) (fun _ => fin) (fun h3 => ?_)
    refine J.iload_n d_R_product_17 rfl rfl ?_
    refine J.sipush d_R_product_18 (v := nI 255) (by decide) ?_
    refine J.icmp_le d_R_product_21 (tgt := 28) (by decide) (fun h4 => ?_) (fun _ => fin)
    exfalso
    rcases hb with z | z
    · rw [Int32.lt_iff_toInt_lt, pI_toInt (by decide)] at h3
      rw [Int32.lt_iff_toInt_lt, Int32.toInt_zero] at z
      refine hne (Int32.toInt_inj.mp ?_)
      rw [pI_toInt (by decide)]
      omega
    · exact absurd (gt_of_ge (a := 255) rfl (by decide) z) (Int32.not_lt.mpr h4)
/-- a disk's places gone, those ahead of n -/
def lz10 (pl : Nat → Nat) (d n : Nat) : Nat → Nat := fun i => if i < n ∧ od10 d (pl i) = true then 0 else pl i
theorem lz10_at (pl : Nat → Nat) (d n : Nat) : lz10 pl d n n = pl n := by simp [lz10]
theorem lz10_yes {pl : Nat → Nat} {d n : Nat} (h : od10 d (pl n) = true) : up (lz10 pl d n) n 0 = lz10 pl d (n + 1) := by
  funext i
  by_cases hi : i = n
  · subst hi; simp [up, lz10, h]
  · simp only [up, lz10, if_neg hi]
    have : (i < n + 1) ↔ i < n := by omega
    simp only [this]
theorem lz10_no {pl : Nat → Nat} {d n : Nat} (h : od10 d (pl n) = false) : lz10 pl d (n + 1) = lz10 pl d n := by
  funext i
  by_cases hi : i = n
  · subst hi; simp [lz10, h]
  · simp only [lz10]
    have : (i < n + 1) ↔ i < n := by omega
    simp only [this]
/-- .. and its slots -/
def fz10 (us : Nat → Nat) (d n : Nat) : Nat → Nat := fun i => if i / 10 = d ∧ i % 10 < n then 0 else us i
theorem fz10_up {us : Nat → Nat} {d n : Nat} (hn : n < 10) : up (fz10 us d n) (10 * d + n) 0 = fz10 us d (n + 1) := by
  funext i
  by_cases hi : i = 10 * d + n
  · subst hi
    rw [up_self]; unfold fz10
    rw [if_pos (by omega)]
  · rw [up_ne _ _ hi]; unfold fz10
    have : (i / 10 = d ∧ i % 10 < n + 1) ↔ (i / 10 = d ∧ i % 10 < n) := by omega
    simp only [this]
theorem fz10_0 (us : Nat → Nat) (d : Nat) : fz10 us d 0 = us := by
  funext i; unfold fz10; rw [if_neg (by omega)]
theorem lz10_0 (pl : Nat → Nat) (d : Nat) : lz10 pl d 0 = pl := by
  funext i; unfold lz10; rw [if_neg (by omega)]
theorem lp_R_fail1 {d : Nat} (hd : d < 8) (hp : ∀ i, pl i ≤ 80) (hz : ∀ i, i < 336 → ln (i / 56) = 0 → pl i = 0) (hln : ∀ o, ln o ≤ 32) {out : Out}
    (kk : J l i_R_fail 130 [(0, .ref 15), (1, .int (nI d)), (2, .int (nI (cs (fun i => b2n (od10 d (pl i))) 336)))] [] (RM P K Mo co dr sz al us by_ ln (lz10 pl d 336) os ou rd sp rw Y) 0 0 out) : ∀ (j i : Nat), i + j = 336 →
    J l i_R_fail 42 [(0, .ref 15), (1, .int (nI d)), (2, .int (nI (cs (fun i => b2n (od10 d (pl i))) i))), (3, .int (nI i))] [] (RM P K Mo co dr sz al us by_ ln (lz10 pl d i) os ou rd sp rw Y) 0 0 out
  | 0, i, hi => by
    have hi' : i = 336 := by omega
    rw [hi']
    generalize lz10 pl d 336 = y at kk ⊢
    refine J.iload_n d_R_fail_42 rfl rfl ?_
    refine J.sipush d_R_fail_43 (v := nI 336) (by decide) ?_
    refine J.icmp_geN d_R_fail_46 (tgt := 130) (by decide) (by omega) (by omega) (fun h => ?_) (fun h => ?_)
    · exact J.sub [0, 1, 2] kk
    · omega
  | j + 1, i, hi => by
    have hbt : b2n true = 1 := rfl
    have hbf : b2n false = 0 := rfl
    have ih := lp_R_fail1 hd hp hz hln kk j (i + 1) (by omega)
    have e : cs (fun i => b2n (od10 d (pl i))) (i + 1) = cs (fun i => b2n (od10 d (pl i))) i + b2n (od10 d (pl i)) := rfl
    rw [e] at ih
    have hle := cs1_le (f := fun i => b2n (od10 d (pl i))) (fun i => b2n_lt _) i
    have hpi := hp i
    have hlni := hln (i / 56)
    have hat := lz10_at pl d i
    have yes : od10 d (pl i) = true → ∀ {w : Int32}, J l i_R_fail 88 [(0, .ref 15), (1, .int (nI d)), (2, .int (nI (cs (fun i => b2n (od10 d (pl i))) i))), (3, .int (nI i))] [.int (nI 1)] (RM P K Mo co dr sz al us by_ ln (lz10 pl d i) os ou rd sp rw Y) 0 0 out := by
      intro hy w
      rw [hy, ← lz10_yes hy] at ih
      refine J.istore d_R_fail_88 (by decide) rfl ?_
      refine J.iload d_R_fail_90 rfl ?_
      refine J.if_eqN d_R_fail_92 (tgt := 101) (by decide) (by omega) (fun h3 => ?_) (fun h3 => ?_)
      · exact absurd h3 (by decide)
      · refine J.iload_n d_R_fail_95 rfl rfl ?_
        refine J.iconst d_R_fail_96 (v := nI 1) (by decide) ?_
        refine J.iaddN d_R_fail_97 ?_
        refine J.goto d_R_fail_98 (tgt := 102) (by decide) ?_
        refine J.istore_n d_R_fail_102 rfl (by decide) rfl ?_
        refine J.aload_n d_R_fail_103 rfl rfl ?_
        refine J.getfield d_R_fail_104 fl_R_26 rfl rfl ?_
        refine J.iload_n d_R_fail_107 rfl rfl ?_
        refine J.iload d_R_fail_108 rfl ?_
        refine J.if_eqN d_R_fail_110 (tgt := 117) (by decide) (by omega) (fun h4 => ?_) (fun h4 => ?_)
        · exact absurd h4 (by decide)
        · refine J.iconst d_R_fail_113 (v := pI 0) (by decide) ?_
          refine J.goto d_R_fail_114 (tgt := 123) (by decide) ?_
          refine J.iastoreP d_R_fail_123 rfl (by omega) (by omega) ?_
          refine J.iincN d_R_fail_124 rfl rfl (by decide) rfl ?_
          refine J.goto d_R_fail_127 (tgt := 42) (by decide) ?_
          exact J.sub [0, 1, 2, 3] ih
    have no : od10 d (pl i) = false → J l i_R_fail 88 [(0, .ref 15), (1, .int (nI d)), (2, .int (nI (cs (fun i => b2n (od10 d (pl i))) i))), (3, .int (nI i))] [.int (nI 0)] (RM P K Mo co dr sz al us by_ ln (lz10 pl d i) os ou rd sp rw Y) 0 0 out := by
      intro hy
      rw [hy, lz10_no hy] at ih
      refine J.istore d_R_fail_88 (by decide) rfl ?_
      refine J.iload d_R_fail_90 rfl ?_
      refine J.if_eqN d_R_fail_92 (tgt := 101) (by decide) (by omega) (fun h3 => ?_) (fun h3 => ?_)
      · refine J.iload_n d_R_fail_101 rfl rfl ?_
        refine J.istore_n d_R_fail_102 rfl (by decide) rfl ?_
        refine J.aload_n d_R_fail_103 rfl rfl ?_
        refine J.getfield d_R_fail_104 fl_R_26 rfl rfl ?_
        refine J.iload_n d_R_fail_107 rfl rfl ?_
        refine J.iload d_R_fail_108 rfl ?_
        refine J.if_eqN d_R_fail_110 (tgt := 117) (by decide) (by omega) (fun h4 => ?_) (fun h4 => ?_)
        · refine J.aload_n d_R_fail_117 rfl rfl ?_
          refine J.getfield d_R_fail_118 fl_R_26 rfl rfl ?_
          refine J.iload_n d_R_fail_121 rfl rfl ?_
          refine J.ialoadP d_R_fail_122 rfl (by omega) (by omega) ?_
          refine J.iastoreP d_R_fail_123 rfl (by omega) (by omega) ?_
          refine J.iincN d_R_fail_124 rfl rfl (by decide) rfl ?_
          refine J.goto d_R_fail_127 (tgt := 42) (by decide) ?_
          rw [up_same rfl]
          exact J.sub [0, 1, 2, 3] ih
        · exact absurd rfl h4
      · exact absurd rfl h3
    refine J.iload_n d_R_fail_42 rfl rfl ?_
    refine J.sipush d_R_fail_43 (v := nI 336) (by decide) ?_
    refine J.icmp_geN d_R_fail_46 (tgt := 130) (by decide) (by omega) (by omega) (fun h => ?_) (fun h => ?_)
    · omega
    refine J.aload_n d_R_fail_49 rfl rfl ?_
    refine J.getfield d_R_fail_50 fl_R_23 rfl rfl ?_
    refine J.iload_n d_R_fail_53 rfl rfl ?_
    refine J.bipush d_R_fail_54 (v := nI 56) (by decide) ?_
    refine J.idivN d_R_fail_56 (by omega) (by omega) (by omega) ?_
    refine J.ialoadN d_R_fail_57 rfl (by omega) (by omega) ?_
    refine J.if_leN d_R_fail_58 (tgt := 87) (by decide) (by omega) (fun h2 => ?_) (fun h2 => ?_)
    · have h0 := hz i (by omega) (by omega)
      refine J.iconst d_R_fail_87 (v := nI 0) (by decide) ?_
      exact no (by simp [od10, h0])
    rcases Nat.eq_zero_or_pos (pl i) with h0 | h0
    · refine J.aload_n d_R_fail_61 rfl rfl ?_
      refine J.getfield d_R_fail_62 fl_R_26 rfl rfl ?_
      refine J.iload_n d_R_fail_65 rfl rfl ?_
      refine J.ialoadP d_R_fail_66 rfl (by omega) (by omega) ?_
      rw [hat, h0]
      refine J.if_ltP d_R_fail_67 (tgt := 87) (by decide) (by omega) (fun _ => ?_) (fun q => absurd q (by decide))
      refine J.iconst d_R_fail_87 (v := nI 0) (by decide) ?_
      exact no (by simp [od10, h0])
    · obtain ⟨p, ep⟩ : ∃ p, pl i = p + 1 := ⟨pl i - 1, by omega⟩
      refine J.aload_n d_R_fail_61 rfl rfl ?_
      refine J.getfield d_R_fail_62 fl_R_26 rfl rfl ?_
      refine J.iload_n d_R_fail_65 rfl rfl ?_
      refine J.ialoadP d_R_fail_66 rfl (by omega) (by omega) ?_
      rw [hat, ep, pI_succ]
      refine J.if_ltN d_R_fail_67 (tgt := 87) (by decide) (by omega) (fun _ => ?_)
      refine J.aload_n d_R_fail_70 rfl rfl ?_
      refine J.getfield d_R_fail_71 fl_R_26 rfl rfl ?_
      refine J.iload_n d_R_fail_74 rfl rfl ?_
      refine J.ialoadP d_R_fail_75 rfl (by omega) (by omega) ?_
      rw [hat, ep, pI_succ]
      refine J.bipush d_R_fail_76 (v := nI 10) (by decide) ?_
      refine J.idivN d_R_fail_78 (by omega) (by omega) (by omega) ?_
      refine J.iload_n d_R_fail_79 rfl rfl ?_
      refine J.icmp_neN d_R_fail_80 (tgt := 87) (by decide) (by omega) (by omega) (fun h5 => ?_) (fun h5 => ?_)
      · refine J.iconst d_R_fail_87 (v := nI 0) (by decide) ?_
        exact no (by simp [od10, ep, h5])
      · refine J.iconst d_R_fail_83 (v := nI 1) (by decide) ?_
        refine J.goto d_R_fail_84 (tgt := 88) (by decide) ?_
        exact yes (by simp [od10, ep, h5]) (w := 0)
theorem lp_R_fail2 {d c : Nat} (hd : d < 8) (hal : al d = 1) : ∀ (j i : Nat), i + j = 10 →
    J l i_R_fail 132 [(0, .ref 15), (1, .int (nI d)), (2, .int (nI c)), (3, .int (nI i))] [] (RM P K Mo co dr sz al (fz10 us d i) by_ ln pl os ou rd sp rw Y) 0 0 (.inl (some (.int (nI c)), (RM P K Mo co dr sz (up al d 0) (fz10 us d 10) by_ ln pl os ou rd sp rw Y)))
  | 0, i, hi => by
    have hi' : i = 10 := by omega
    rw [hi']
    refine J.iload_n d_R_fail_132 rfl rfl ?_
    refine J.bipush d_R_fail_133 (v := nI 10) (by decide) ?_
    refine J.icmp_geN d_R_fail_135 (tgt := 156) (by decide) (by omega) (by omega) (fun h => ?_) (fun h => ?_)
    · refine J.aload_n d_R_fail_156 rfl rfl ?_
      refine J.getfield d_R_fail_157 fl_R_13 rfl rfl ?_
      refine J.iload_n d_R_fail_160 rfl rfl ?_
      refine J.iconst d_R_fail_161 (v := nI 0) (by decide) ?_
      refine J.bastoreN d_R_fail_162 rfl (by omega) (by omega) (by omega) ?_
      refine J.iload_n d_R_fail_163 rfl rfl ?_
      exact J.ireturn d_R_fail_164 rfl (by decide) (by decide)
    · omega
  | j + 1, i, hi => by
    have ih := lp_R_fail2 (c := c) hd hal j (i + 1) (by omega)
    rw [← fz10_up (by omega)] at ih
    refine J.iload_n d_R_fail_132 rfl rfl ?_
    refine J.bipush d_R_fail_133 (v := nI 10) (by decide) ?_
    refine J.icmp_geN d_R_fail_135 (tgt := 156) (by decide) (by omega) (by omega) (fun h => ?_) (fun h => ?_)
    · omega
    refine J.aload_n d_R_fail_138 rfl rfl ?_
    refine J.getfield d_R_fail_139 fl_R_17 rfl rfl ?_
    refine J.bipush d_R_fail_142 (v := nI 10) (by decide) ?_
    refine J.iload_n d_R_fail_144 rfl rfl ?_
    refine J.imulN d_R_fail_145 ?_
    refine J.iload_n d_R_fail_146 rfl rfl ?_
    refine J.iaddN d_R_fail_147 ?_
    refine J.iconst d_R_fail_148 (v := nI 0) (by decide) ?_
    refine J.bastoreN d_R_fail_149 rfl (by omega) (by omega) (by omega) ?_
    refine J.iincN d_R_fail_150 rfl rfl (by decide) rfl ?_
    refine J.goto d_R_fail_153 (tgt := 132) (by decide) ?_
    exact ih
theorem con_R_fail1 {d : Nat} (hd : d < 8) (hal : al d = 1) (hp : ∀ i, pl i ≤ 80) (hz : ∀ i, i < 336 → ln (i / 56) = 0 → pl i = 0) (hln : ∀ o, ln o ≤ 32) : Con l i_R_fail [.ref 15, .int (nI d)] (RM P K Mo co dr sz al us by_ ln pl os ou rd sp rw Y) (.inl (some (.int (nI (cs (fun i => b2n (od10 d (pl i))) 336))), (RM P K Mo 0 dr sz (up al d 0) (fz10 us d 10) by_ ln (lz10 pl d 336) os ou rd sp rw Y))) := by
  have h2 := fun c => lp_R_fail2 (l := l) (P := P) (K := K) (Mo := Mo) (co := 0) (sz := sz) (os := os) (dr := dr) (al := al) (us := us) (by_ := by_) (ln := ln) (pl := lz10 pl d 336) (ou := ou) (rd := rd) (sp := sp) (rw := rw) (Y := Y) (d := d) (c := c) hd hal 10 0 (by omega)
  rw [fz10_0] at h2
  have h2' := h2 (cs (fun i => b2n (od10 d (pl i))) 336)
  have h1 := fun kk => lp_R_fail1 (l := l) (P := P) (K := K) (Mo := Mo) (co := 0) (sz := sz) (os := os) (dr := dr) (al := al) (us := us) (by_ := by_) (ln := ln) (pl := pl) (ou := ou) (rd := rd) (sp := sp) (rw := rw) (Y := Y) (d := d) (out := .inl (some (.int (nI (cs (fun i => b2n (od10 d (pl i))) 336))), (RM P K Mo 0 dr sz (up al d 0) (fz10 us d 10) by_ ln (lz10 pl d 336) os ou rd sp rw Y))) hd hp hz hln kk 336 0 (by omega)
  rw [lz10_0] at h1
  generalize cs (fun i => b2n (od10 d (pl i))) 336 = c at h1 h2' ⊢
  generalize lz10 pl d 336 = y at h1 h2' ⊢
  refine Con.of ?_
  refine J.aload_n d_R_fail_0 rfl rfl ?_
  refine J.iload_n d_R_fail_1 rfl rfl ?_
  refine J.s1i (con_R_isDisk1 hd _) k_R_fail_R_isDisk d_R_fail_2 rfl ?_
  refine J.if_neN d_R_fail_5 (tgt := 12) (by decide) (by omega) (fun h => ?_) (fun h => ?_)
  · refine J.aload_n d_R_fail_12 rfl rfl ?_
    refine J.getfield d_R_fail_13 fl_R_13 rfl rfl ?_
    refine J.iload_n d_R_fail_16 rfl rfl ?_
    refine J.baloadN d_R_fail_17 rfl (by omega) (by omega) ?_
    rw [hal]
    refine J.if_neN d_R_fail_18 (tgt := 25) (by decide) (by omega) (fun h3 => ?_) (fun h3 => ?_)
    · refine J.iconst d_R_fail_25 (v := nI 0) (by decide) ?_
      refine J.putfield d_R_fail_26 (fs_R_59 _) rfl (Nat.le_of_ble_eq_true rfl) rfl rfl ?_
      refine J.aload_n d_R_fail_29 rfl rfl ?_
      refine J.getfield d_R_fail_30 fl_R_59 rfl rfl ?_
      refine J.if_leN d_R_fail_33 (tgt := 38) (by decide) (by omega) (fun h4 => ?_) (fun h4 => ?_)
      · refine J.iconst d_R_fail_38 (v := nI 0) (by decide) ?_
        refine J.istore_n d_R_fail_39 rfl (by decide) rfl ?_
        refine J.iconst d_R_fail_40 (v := nI 0) (by decide) ?_
        refine J.istore_n d_R_fail_41 rfl (by decide) rfl ?_
        refine h1 ?_
        refine J.iconst d_R_fail_130 (v := nI 0) (by decide) ?_
        refine J.istore_n d_R_fail_131 rfl (by decide) rfl ?_
        exact h2'
      · exact absurd h4 (by decide)
    · exact absurd h3 (by decide)
  · exact absurd h (by decide)
theorem con_R_fail0 {x : Int32} (hx : x < 0 ∨ nI 8 ≤ x) : Con l i_R_fail [.ref 15, .int x] (RM P K Mo co dr sz al us by_ ln pl os ou rd sp rw Y) (.inl (some (.int (nI 0)), (RM P K Mo 1 dr sz al us by_ ln pl os ou rd sp rw Y))) := by
  refine Con.of ?_
  refine J.aload_n d_R_fail_0 rfl rfl ?_
  refine J.iload_n d_R_fail_1 rfl rfl ?_
  refine J.s1i (con_R_isDisk0 hx _) k_R_fail_R_isDisk d_R_fail_2 rfl ?_
  refine J.if_neN d_R_fail_5 (tgt := 12) (by decide) (by omega) (fun h => ?_) (fun h => ?_)
  · exact absurd rfl h
  · refine J.iconst d_R_fail_8 (v := nI 1) (by decide) ?_
    refine J.goto d_R_fail_9 (tgt := 26) (by decide) ?_
    refine J.putfield d_R_fail_26 (fs_R_59 _) rfl (Nat.le_of_ble_eq_true rfl) rfl rfl ?_
    refine J.aload_n d_R_fail_29 rfl rfl ?_
    refine J.getfield d_R_fail_30 fl_R_59 rfl rfl ?_
    refine J.if_leN d_R_fail_33 (tgt := 38) (by decide) (by omega) (fun h4 => ?_) (fun h4 => ?_)
    · exact absurd h4 (by decide)
    · refine J.iconst d_R_fail_36 (v := nI 0) (by decide) ?_
      exact J.ireturn d_R_fail_37 rfl (by decide) (by decide)
theorem con_R_fail2 {d : Nat} (hd : d < 8) (ha : al d = 0) : Con l i_R_fail [.ref 15, .int (nI d)] (RM P K Mo co dr sz al us by_ ln pl os ou rd sp rw Y) (.inl (some (.int (nI 0)), (RM P K Mo 2 dr sz al us by_ ln pl os ou rd sp rw Y))) := by
  refine Con.of ?_
  refine J.aload_n d_R_fail_0 rfl rfl ?_
  refine J.iload_n d_R_fail_1 rfl rfl ?_
  refine J.s1i (con_R_isDisk1 hd _) k_R_fail_R_isDisk d_R_fail_2 rfl ?_
  refine J.if_neN d_R_fail_5 (tgt := 12) (by decide) (by omega) (fun h => ?_) (fun h => ?_)
  · refine J.aload_n d_R_fail_12 rfl rfl ?_
    refine J.getfield d_R_fail_13 fl_R_13 rfl rfl ?_
    refine J.iload_n d_R_fail_16 rfl rfl ?_
    refine J.baloadN d_R_fail_17 rfl (by omega) (by omega) ?_
    rw [ha]
    refine J.if_neN d_R_fail_18 (tgt := 25) (by decide) (by omega) (fun h3 => ?_) (fun h3 => ?_)
    · exact absurd rfl h3
    · refine J.iconst d_R_fail_21 (v := nI 2) (by decide) ?_
      refine J.goto d_R_fail_22 (tgt := 26) (by decide) ?_
      refine J.putfield d_R_fail_26 (fs_R_59 _) rfl (Nat.le_of_ble_eq_true rfl) rfl rfl ?_
      refine J.aload_n d_R_fail_29 rfl rfl ?_
      refine J.getfield d_R_fail_30 fl_R_59 rfl rfl ?_
      refine J.if_leN d_R_fail_33 (tgt := 38) (by decide) (by omega) (fun h4 => ?_) (fun h4 => ?_)
      · exact absurd h4 (by decide)
      · refine J.iconst d_R_fail_36 (v := nI 0) (by decide) ?_
        exact J.ireturn d_R_fail_37 rfl (by decide) (by decide)
  · exact absurd h (by decide)
end REFGET2
