/-! The reference's constructor -/
def R0 : va_E := .inr (4, [.int 0, .int 0, .int 0, .null, .int 0, .null, .null, .null, .null, .null, .null, .int 0, .null, .null, .null, .null])
def RT (K Mo : Nat) (al : Nat → Nat) (pf : Nat → Int32) (fc : Nat → Nat) : List va_E := [.inr (4, [.int (nI K), .int (nI Mo), .int (nI 0), .ref 16, .int (nI 0), .ref 17, .ref 18, .ref 19, .ref 20, .ref 21, .ref 22, .int (nI 0), .ref 23, .ref 24, .ref 25, .ref 26]), aI 32 z0, aZ 8 al, aZ 80 z0, aI 320 z0, aI 6 z0, .inl (0, 336, .inl pf), aI 28 fc, aI 32 z0, aI 32 z0, aI 16 z0, aI 20 z0]
def RS (L : Nat) (xs : Nat → Int32) (K Mo : Nat) (al : Nat → Nat) (pf : Nat → Int32) (fc : Nat → Nat) : List va_E := CS L xs K Mo ++ RT K Mo al pf fc
/-- the factors, row after row -/
def fcS (K h j : Nat) : Nat → Nat := fun i => if i / 4 < h ∧ i % 4 < K ∨ i / 4 = h ∧ i % 4 < j then fac K (i / 4 * K + i % 4) else 0
theorem fcS_up {K h j : Nat} (hj : j < K) (hK4 : K ≤ 4) : up (fcS K h j) (4 * h + j) (fac K (h * K + j)) = fcS K h (j + 1) := by
  funext i
  by_cases hi : i = 4 * h + j
  · subst hi
    have e1 : (4 * h + j) / 4 = h := by omega
    have e2 : (4 * h + j) % 4 = j := by omega
    rw [up_self]; unfold fcS
    rw [if_pos (by omega), e1, e2]
  · rw [up_ne _ _ hi]; unfold fcS
    have : (i / 4 < h ∧ i % 4 < K ∨ i / 4 = h ∧ i % 4 < j + 1) ↔ (i / 4 < h ∧ i % 4 < K ∨ i / 4 = h ∧ i % 4 < j) := by omega
    simp only [this]
theorem fcS_next {K h : Nat} : fcS K h K = fcS K (h + 1) 0 := by
  funext i
  unfold fcS
  have : (i / 4 < h ∧ i % 4 < K ∨ i / 4 = h ∧ i % 4 < K) ↔ (i / 4 < h + 1 ∧ i % 4 < K ∨ i / 4 = h + 1 ∧ i % 4 < 0) := by omega
  simp only [this]
theorem fcS_0 {K : Nat} : fcS K 0 0 = z0 := by
  funext i
  unfold fcS
  rw [if_neg (by omega)]
  rfl
theorem fcS_end {K Mo : Nat} : fcS K (K + Mo) 0 = fc4 K Mo := by
  funext i
  unfold fcS fc4
  have : (i / 4 < K + Mo ∧ i % 4 < K ∨ i / 4 = K + Mo ∧ i % 4 < 0) ↔ (i / 4 < K + Mo ∧ i % 4 < K) := by omega
  simp only [this]
section INITR
variable {l : Launch} {K Mo L : Nat} {xs : Nat → Int32} {al : Nat → Nat} {pf : Nat → Int32} {fc : Nat → Nat}
theorem con_R_shards0 : Con l i_R_shards [.ref 15] (RS L xs K Mo al pf fc) (.inl (some (.int (nI (K + Mo))), RS L xs K Mo al pf fc)) := by
  refine Con.of ?_
  refine J.aload_n d_R_shards_0 rfl rfl ?_
  refine J.getfield d_R_shards_1 fl_R_44 rfl rfl ?_
  refine J.aload_n d_R_shards_4 rfl rfl ?_
  refine J.getfield d_R_shards_5 fl_R_48 rfl rfl ?_
  refine J.iaddN d_R_shards_8 ?_
  exact J.ireturn d_R_shards_9 rfl (by decide) (by decide)
theorem lp_R_ini1 {x y : Int32} {out : Out} (kk : J l i_R_init 161 [(0, .ref 15), (1, .int x), (2, .int y)] [] (RS L xs K Mo al0 pf fc) 11 910 out) : ∀ (j i : Nat), i + j = 8 →
    J l i_R_init 142 [(0, .ref 15), (1, .int x), (2, .int y), (3, .int (nI i))] [] (RS L xs K Mo (upN 1 i) pf fc) 11 910 out
  | 0, i, hi => by
    have hi' : i = 8 := by omega
    rw [hi']
    refine J.iload_n d_R_init_142 rfl rfl ?_
    refine J.bipush d_R_init_143 (v := nI 8) (by decide) ?_
    refine J.icmp_geN d_R_init_145 (tgt := 161) (by decide) (by omega) (by omega) (fun h => ?_) (fun h => ?_)
    · exact J.sub [0, 1, 2] kk
    · omega
  | j + 1, i, hi => by
    have ih := lp_R_ini1 kk j (i + 1) (by omega)
    rw [← upN_up] at ih
    refine J.iload_n d_R_init_142 rfl rfl ?_
    refine J.bipush d_R_init_143 (v := nI 8) (by decide) ?_
    refine J.icmp_geN d_R_init_145 (tgt := 161) (by decide) (by omega) (by omega) (fun h => ?_) (fun h => ?_)
    · omega
    refine J.aload_n d_R_init_148 rfl rfl ?_
    refine J.getfield d_R_init_149 fl_R_13 rfl rfl ?_
    refine J.iload_n d_R_init_152 rfl rfl ?_
    refine J.iconst d_R_init_153 (v := nI 1) (by decide) ?_
    refine J.bastoreN d_R_init_154 rfl (by omega) (by omega) (by omega) ?_
    refine J.iincN d_R_init_155 rfl rfl (by decide) rfl ?_
    refine J.goto d_R_init_158 (tgt := 142) (by decide) ?_
    exact ih
theorem lp_R_ini2 {x y : Int32} {out : Out} (kk : J l i_R_init 183 [(0, .ref 15), (1, .int x), (2, .int y)] [] (RS L xs K Mo al (flN pf (pI 0) 336) fc) 11 910 out) : ∀ (j i : Nat), i + j = 336 →
    J l i_R_init 163 [(0, .ref 15), (1, .int x), (2, .int y), (3, .int (nI i))] [] (RS L xs K Mo al (flN pf (pI 0) i) fc) 11 910 out
  | 0, i, hi => by
    have hi' : i = 336 := by omega
    rw [hi']
    refine J.iload_n d_R_init_163 rfl rfl ?_
    refine J.sipush d_R_init_164 (v := nI 336) (by decide) ?_
    refine J.icmp_geN d_R_init_167 (tgt := 183) (by decide) (by omega) (by omega) (fun h => ?_) (fun h => ?_)
    · exact J.sub [0, 1, 2] kk
    · omega
  | j + 1, i, hi => by
    have ih := lp_R_ini2 kk j (i + 1) (by omega)
    rw [← flN_up] at ih
    refine J.iload_n d_R_init_163 rfl rfl ?_
    refine J.sipush d_R_init_164 (v := nI 336) (by decide) ?_
    refine J.icmp_geN d_R_init_167 (tgt := 183) (by decide) (by omega) (by omega) (fun h => ?_) (fun h => ?_)
    · omega
    refine J.aload_n d_R_init_170 rfl rfl ?_
    refine J.getfield d_R_init_171 fl_R_26 rfl rfl ?_
    refine J.iload_n d_R_init_174 rfl rfl ?_
    refine J.iconst d_R_init_175 (v := pI 0) (by decide) ?_
    refine J.iastoreR (a := 21) (cell := 336) (f := flN pf (pI 0) i) d_R_init_176 rfl (vp_in_nI (by omega) (by omega)) ?_
    rw [nI_clamp (by omega)]
    refine J.iincN d_R_init_177 rfl rfl (by decide) rfl ?_
    refine J.goto d_R_init_180 (tgt := 163) (by decide) ?_
    exact ih
theorem lp_R_ini4 {x y : Int32} {h : Nat} (hK : 0 < K) (hK4 : K ≤ 4) (hM : Mo ≤ 3) (hh : h < K + Mo) {out : Out} (kk : J l i_R_init 251 [(0, .ref 15), (1, .int x), (2, .int y), (3, .int (nI h))] [] (RS L xs K Mo al pf (fcS K h K)) 11 910 out) : ∀ (j i : Nat), i + j = K →
    J l i_R_init 196 [(0, .ref 15), (1, .int x), (2, .int y), (3, .int (nI h)), (4, .int (nI i))] [] (RS L xs K Mo al pf (fcS K h i)) 11 910 out
  | 0, i, hi => by
    have hi' : i = K := by omega
    rw [hi']
    refine J.iload d_R_init_196 rfl ?_
    refine J.aload_n d_R_init_198 rfl rfl ?_
    refine J.getfield d_R_init_199 fl_R_44 rfl rfl ?_
    refine J.icmp_geN d_R_init_202 (tgt := 251) (by decide) (by omega) (by omega) (fun h1 => ?_) (fun h1 => ?_)
    · exact J.sub [0, 1, 2, 3] kk
    · omega
  | j + 1, i, hi => by
    have ih := lp_R_ini4 (x := x) (y := y) hK hK4 hM hh kk j (i + 1) (by omega)
    rw [← fcS_up (by omega) hK4] at ih
    have e : fac K (h * K + i) = if h < K then (if h = i then 1 else 0) else gi (h ^^^ i) := by
      unfold fac
      rw [dm_div (by omega), dm_mod (by omega)]
    have hx : h ^^^ i < 256 := xor_lt (by omega) (by omega)
    have fin : J l i_R_init 244 [(0, .ref 15), (1, .int x), (2, .int y), (3, .int (nI h)), (4, .int (nI i))] [.int (nI (fac K (h * K + i))), .int (nI (4 * h + i)), .ref 22] (RS L xs K Mo al pf (fcS K h i)) 11 910 out := by
      refine J.iastoreN d_R_init_244 rfl (by omega) (by omega) ?_
      refine J.iincN d_R_init_245 rfl rfl (by decide) rfl ?_
      refine J.goto d_R_init_248 (tgt := 196) (by decide) ?_
      exact ih
    refine J.iload d_R_init_196 rfl ?_
    refine J.aload_n d_R_init_198 rfl rfl ?_
    refine J.getfield d_R_init_199 fl_R_44 rfl rfl ?_
    refine J.icmp_geN d_R_init_202 (tgt := 251) (by decide) (by omega) (by omega) (fun h1 => ?_) (fun h1 => ?_)
    · omega
    refine J.aload_n d_R_init_205 rfl rfl ?_
    refine J.getfield d_R_init_206 fl_R_29 rfl rfl ?_
    refine J.iconst d_R_init_209 (v := nI 4) (by decide) ?_
    refine J.iload_n d_R_init_210 rfl rfl ?_
    refine J.imulN d_R_init_211 ?_
    refine J.iload d_R_init_212 rfl ?_
    refine J.iaddN d_R_init_214 ?_
    refine J.iload_n d_R_init_215 rfl rfl ?_
    refine J.aload_n d_R_init_216 rfl rfl ?_
    refine J.getfield d_R_init_217 fl_R_44 rfl rfl ?_
    refine J.icmp_geN d_R_init_220 (tgt := 237) (by decide) (by omega) (by omega) (fun h2 => ?_) (fun h2 => ?_)
    · have h0 : h ^^^ i ≠ 0 := fun z => by
        have : h = i := by
          have := congrArg (· ^^^ i) z
          simp only [Nat.xor_assoc, Nat.xor_self, Nat.xor_zero, Nat.zero_xor] at this
          exact this
        omega
      rw [if_neg (by omega)] at e
      rw [e] at fin
      refine J.iload_n d_R_init_237 rfl rfl ?_
      refine J.iload d_R_init_238 rfl ?_
      refine J.ixorN d_R_init_240 ?_
      refine J.s1i (con_R_inverse (by omega) hx _) k_R_init_R_inverse d_R_init_241 rfl ?_
      exact fin
    · rw [if_pos h2] at e
      refine J.iload_n d_R_init_223 rfl rfl ?_
      refine J.iload d_R_init_224 rfl ?_
      refine J.icmp_neN d_R_init_226 (tgt := 233) (by decide) (by omega) (by omega) (fun h3 => ?_) (fun h3 => ?_)
      · rw [if_neg h3] at e
        rw [e] at fin
        refine J.iconst d_R_init_233 (v := nI 0) (by decide) ?_
        refine J.goto d_R_init_234 (tgt := 244) (by decide) ?_
        exact fin
      · rw [if_pos h3] at e
        rw [e] at fin
        refine J.iconst d_R_init_229 (v := nI 1) (by decide) ?_
        refine J.goto d_R_init_230 (tgt := 244) (by decide) ?_
        exact fin
theorem lp_R_ini3 {x y : Int32} (hK : 0 < K) (hK4 : K ≤ 4) (hM : Mo ≤ 3) : ∀ (j i : Nat), i + j = K + Mo →
    J l i_R_init 185 [(0, .ref 15), (1, .int x), (2, .int y), (3, .int (nI i))] [] (RS L xs K Mo al pf (fcS K i 0)) 11 910 (.inl (none, RS L xs K Mo al pf (fc4 K Mo)))
  | 0, i, hi => by
    have hi' : i = K + Mo := by omega
    rw [hi', fcS_end]
    refine J.iload_n d_R_init_185 rfl rfl ?_
    refine J.aload_n d_R_init_186 rfl rfl ?_
    refine J.v0i con_R_shards0 k_R_init_R_shards d_R_init_187 rfl rfl rfl ?_
    refine J.icmp_geN d_R_init_190 (tgt := 257) (by decide) (by omega) (by omega) (fun h => ?_) (fun h => ?_)
    · exact J.vreturn d_R_init_257 rfl (by decide) (by decide)
    · omega
  | j + 1, i, hi => by
    have ih := lp_R_ini3 (x := x) (y := y) hK hK4 hM j (i + 1) (by omega)
    rw [← fcS_next] at ih
    refine J.iload_n d_R_init_185 rfl rfl ?_
    refine J.aload_n d_R_init_186 rfl rfl ?_
    refine J.v0i con_R_shards0 k_R_init_R_shards d_R_init_187 rfl rfl rfl ?_
    refine J.icmp_geN d_R_init_190 (tgt := 257) (by decide) (by omega) (by omega) (fun h => ?_) (fun h => ?_)
    · omega
    refine J.iconst d_R_init_193 (v := nI 0) (by decide) ?_
    refine J.istore d_R_init_194 (by decide) rfl ?_
    refine lp_R_ini4 hK hK4 hM (by omega) ?_ K 0 (by omega)
    refine J.iincN d_R_init_251 rfl rfl (by decide) rfl ?_
    refine J.goto d_R_init_254 (tgt := 185) (by decide) ?_
    exact ih
set_option maxHeartbeats 4000000 in
theorem con_R_init {x y : Int32} (hx : nr x 4 = K) (hy : nr y 3 = Mo) : Con l i_R_init [.ref 15, .int x, .int y] (CS L xs K Mo ++ [R0]) (.inl (none, RS L xs K Mo al0 (fun j => pI (z0 j)) (fc4 K Mo))) := by
  have hKb := nr_b (x := x) (m := 4) (by decide) (by decide)
  have hMb := nr_b (x := y) (m := 3) (by decide) (by decide)
  rw [hx] at hKb
  rw [hy] at hMb
  have h3 := lp_R_ini3 (l := l) (x := x) (y := y) (L := L) (xs := xs) (al := al0) (pf := fun j => pI (z0 j)) (K := K) (Mo := Mo) (by omega) (by omega) (by omega) (K + Mo) 0 (by omega)
  rw [fcS_0] at h3
  have h2 : J l i_R_init 163 [(0, .ref 15), (1, .int x), (2, .int y), (3, .int (nI 0))] [] (RS L xs K Mo al0 (fun _ => nI 0) z0) 11 910 (.inl (none, RS L xs K Mo al0 (fun j => pI (z0 j)) (fc4 K Mo))) := by
    have := lp_R_ini2 (l := l) (x := x) (y := y) (L := L) (xs := xs) (al := al0) (pf := fun _ => nI 0) (K := K) (Mo := Mo) (fc := z0) (out := .inl (none, RS L xs K Mo al0 (fun j => pI (z0 j)) (fc4 K Mo))) ?_ 336 0 (by omega)
    · have e0 : flN (fun _ => nI 0) (pI 0) 0 = fun _ => nI 0 := by funext j; unfold flN; rw [if_neg (Nat.not_lt_zero _)]
      rw [e0] at this
      exact this
    · refine J.setA (q := 21) (g := fun j => pI (z0 j)) rfl (fun j hj => ?_) ?_
      · show (if j < 336 then pI 0 else nI 0) = pI 0
        rw [if_pos hj]
      refine J.iconst d_R_init_183 (v := nI 0) (by decide) ?_
      refine J.istore_n d_R_init_184 rfl (by decide) rfl ?_
      exact h3
  have h1 := lp_R_ini1 (l := l) (x := x) (y := y) (L := L) (xs := xs) (pf := fun _ => nI 0) (K := K) (Mo := Mo) (fc := z0) (out := .inl (none, RS L xs K Mo al0 (fun j => pI (z0 j)) (fc4 K Mo))) (by
    refine J.iconst d_R_init_161 (v := nI 0) (by decide) ?_
    refine J.istore_n d_R_init_162 rfl (by decide) rfl ?_
    exact h2) 8 0 (by omega)
  rw [upN_0] at h1
  have k2 : J l i_R_init 137 [(0, .ref 15), (1, .int x), (2, .int y)] [.int (nI Mo), .ref 15] ((RS L xs K Mo z0 (fun _ => nI 0) z0).set 15 (.inr (4, [.int (nI K), .int 0, .int (nI 0), .ref 16, .int (nI 0), .ref 17, .ref 18, .ref 19, .ref 20, .ref 21, .ref 22, .int (nI 0), .ref 23, .ref 24, .ref 25, .ref 26]))) 11 910 (.inl (none, RS L xs K Mo al0 (fun j => pI (z0 j)) (fc4 K Mo))) := by
    refine J.putfield d_R_init_137 fs_R_48 rfl (Nat.le_of_ble_eq_true rfl) rfl rfl ?_
    refine J.iconst d_R_init_140 (v := nI 0) (by decide) ?_
    refine J.istore_n d_R_init_141 rfl (by decide) rfl ?_
    exact h1
  have k1 : J l i_R_init 114 [(0, .ref 15), (1, .int x), (2, .int y)] [.int (nI K), .ref 15] ((RS L xs K Mo z0 (fun _ => nI 0) z0).set 15 (.inr (4, [.int 0, .int 0, .int (nI 0), .ref 16, .int (nI 0), .ref 17, .ref 18, .ref 19, .ref 20, .ref 21, .ref 22, .int (nI 0), .ref 23, .ref 24, .ref 25, .ref 26]))) 11 910 (.inl (none, RS L xs K Mo al0 (fun j => pI (z0 j)) (fc4 K Mo))) := by
    refine J.putfield d_R_init_114 fs_R_44 rfl (Nat.le_of_ble_eq_true rfl) rfl rfl ?_
    refine J.aload_n d_R_init_117 rfl rfl ?_
    refine J.iload_n d_R_init_118 rfl rfl ?_
    refine J.iconst d_R_init_119 (v := nI 1) (by decide) ?_
    unfold nr at hy
    refine J.icmp_ge d_R_init_120 (tgt := 127) (by decide) (fun q => ?_) (fun q => ?_)
    · have q' := Int32.not_lt.mpr q
      rw [if_neg q'] at hy
      refine J.iload_n d_R_init_127 rfl rfl ?_
      refine J.iconst d_R_init_128 (v := nI 3) (by decide) ?_
      refine J.icmp_le d_R_init_129 (tgt := 136) (by decide) (fun q2 => ?_) (fun q2 => ?_)
      · rw [if_neg (Int32.not_lt.mpr q2)] at hy
        have e := nI_clampI q'
        rw [hy] at e
        refine J.iload_n d_R_init_136 rfl rfl ?_
        rw [← e] at k2 ⊢
        exact k2
      · rw [if_pos (Int32.not_le.mp q2)] at hy
        subst hy
        refine J.iconst d_R_init_132 (v := nI 3) (by decide) ?_
        refine J.goto d_R_init_133 (tgt := 137) (by decide) ?_
        exact k2
    · rw [if_pos (Int32.not_le.mp q)] at hy
      subst hy
      refine J.iconst d_R_init_123 (v := nI 1) (by decide) ?_
      refine J.goto d_R_init_124 (tgt := 137) (by decide) ?_
      exact k2
  have k0 : J l i_R_init 94 [(0, .ref 15), (1, .int x), (2, .int y)] [] ((RS L xs K Mo z0 (fun _ => nI 0) z0).set 15 (.inr (4, [.int 0, .int 0, .int (nI 0), .ref 16, .int (nI 0), .ref 17, .ref 18, .ref 19, .ref 20, .ref 21, .ref 22, .int (nI 0), .ref 23, .ref 24, .ref 25, .ref 26]))) 11 910 (.inl (none, RS L xs K Mo al0 (fun j => pI (z0 j)) (fc4 K Mo))) := by
    refine J.aload_n d_R_init_94 rfl rfl ?_
    refine J.iload_n d_R_init_95 rfl rfl ?_
    refine J.iconst d_R_init_96 (v := nI 1) (by decide) ?_
    unfold nr at hx
    refine J.icmp_ge d_R_init_97 (tgt := 104) (by decide) (fun q => ?_) (fun q => ?_)
    · have q' := Int32.not_lt.mpr q
      rw [if_neg q'] at hx
      refine J.iload_n d_R_init_104 rfl rfl ?_
      refine J.iconst d_R_init_105 (v := nI 4) (by decide) ?_
      refine J.icmp_le d_R_init_106 (tgt := 113) (by decide) (fun q2 => ?_) (fun q2 => ?_)
      · rw [if_neg (Int32.not_lt.mpr q2)] at hx
        have e := nI_clampI q'
        rw [hx] at e
        refine J.iload_n d_R_init_113 rfl rfl ?_
        rw [← e] at k1 ⊢
        exact k1
      · rw [if_pos (Int32.not_le.mp q2)] at hx
        subst hx
        refine J.iconst d_R_init_109 (v := nI 4) (by decide) ?_
        refine J.goto d_R_init_110 (tgt := 114) (by decide) ?_
        exact k1
    · rw [if_pos (Int32.not_le.mp q)] at hx
      subst hx
      refine J.iconst d_R_init_100 (v := nI 1) (by decide) ?_
      refine J.goto d_R_init_101 (tgt := 114) (by decide) ?_
      exact k1
  refine Con.of ?_
  refine J.aload_n d_R_init_0 rfl rfl ?_
  refine J.objInit d_R_init_1 oi_R (by decide) (by decide) ?_
  refine J.aload_n d_R_init_4 rfl rfl ?_
  refine J.bipush d_R_init_5 (v := nI 32) (by decide) ?_
  refine J.newI d_R_init_7 (by omega) rfl rfl rfl (by decide) (by decide) ?_
  refine J.putfield d_R_init_9 fs_R_7 rfl (Nat.le_of_ble_eq_true rfl) rfl rfl ?_
  show J l i_R_init 12 [(0, .ref 15), (1, .int x), (2, .int y)] [] (CS L xs K Mo ++ [.inr (4, [.int 0, .int 0, .int (nI 0), .ref 16, .int (nI 0), .null, .null, .null, .null, .null, .null, .int (nI 0), .null, .null, .null, .null]), aI 32 z0]) 1 32 _
  refine J.aload_n d_R_init_12 rfl rfl ?_
  refine J.bipush d_R_init_13 (v := nI 8) (by decide) ?_
  refine J.newZ d_R_init_15 (by omega) rfl rfl rfl (by decide) (by decide) ?_
  refine J.putfield d_R_init_17 fs_R_13 rfl (Nat.le_of_ble_eq_true rfl) rfl rfl ?_
  show J l i_R_init 20 [(0, .ref 15), (1, .int x), (2, .int y)] [] (CS L xs K Mo ++ [.inr (4, [.int 0, .int 0, .int (nI 0), .ref 16, .int (nI 0), .ref 17, .null, .null, .null, .null, .null, .int (nI 0), .null, .null, .null, .null]), aI 32 z0, aZ 8 z0]) 2 40 _
  refine J.aload_n d_R_init_20 rfl rfl ?_
  refine J.bipush d_R_init_21 (v := nI 80) (by decide) ?_
  refine J.newZ d_R_init_23 (by omega) rfl rfl rfl (by decide) (by decide) ?_
  refine J.putfield d_R_init_25 fs_R_17 rfl (Nat.le_of_ble_eq_true rfl) rfl rfl ?_
  show J l i_R_init 28 [(0, .ref 15), (1, .int x), (2, .int y)] [] (CS L xs K Mo ++ [.inr (4, [.int 0, .int 0, .int (nI 0), .ref 16, .int (nI 0), .ref 17, .ref 18, .null, .null, .null, .null, .int (nI 0), .null, .null, .null, .null]), aI 32 z0, aZ 8 z0, aZ 80 z0]) 3 120 _
  refine J.aload_n d_R_init_28 rfl rfl ?_
  refine J.sipush d_R_init_29 (v := nI 320) (by decide) ?_
  refine J.newI d_R_init_32 (by omega) rfl rfl rfl (by decide) (by decide) ?_
  refine J.putfield d_R_init_34 fs_R_20 rfl (Nat.le_of_ble_eq_true rfl) rfl rfl ?_
  show J l i_R_init 37 [(0, .ref 15), (1, .int x), (2, .int y)] [] (CS L xs K Mo ++ [.inr (4, [.int 0, .int 0, .int (nI 0), .ref 16, .int (nI 0), .ref 17, .ref 18, .ref 19, .null, .null, .null, .int (nI 0), .null, .null, .null, .null]), aI 32 z0, aZ 8 z0, aZ 80 z0, aI 320 z0]) 4 440 _
  refine J.aload_n d_R_init_37 rfl rfl ?_
  refine J.bipush d_R_init_38 (v := nI 6) (by decide) ?_
  refine J.newI d_R_init_40 (by omega) rfl rfl rfl (by decide) (by decide) ?_
  refine J.putfield d_R_init_42 fs_R_23 rfl (Nat.le_of_ble_eq_true rfl) rfl rfl ?_
  show J l i_R_init 45 [(0, .ref 15), (1, .int x), (2, .int y)] [] (CS L xs K Mo ++ [.inr (4, [.int 0, .int 0, .int (nI 0), .ref 16, .int (nI 0), .ref 17, .ref 18, .ref 19, .ref 20, .null, .null, .int (nI 0), .null, .null, .null, .null]), aI 32 z0, aZ 8 z0, aZ 80 z0, aI 320 z0, aI 6 z0]) 5 446 _
  refine J.aload_n d_R_init_45 rfl rfl ?_
  refine J.sipush d_R_init_46 (v := nI 336) (by decide) ?_
  refine J.newI d_R_init_49 (by omega) rfl rfl rfl (by decide) (by decide) ?_
  refine J.putfield d_R_init_51 fs_R_26 rfl (Nat.le_of_ble_eq_true rfl) rfl rfl ?_
  show J l i_R_init 54 [(0, .ref 15), (1, .int x), (2, .int y)] [] (CS L xs K Mo ++ [.inr (4, [.int 0, .int 0, .int (nI 0), .ref 16, .int (nI 0), .ref 17, .ref 18, .ref 19, .ref 20, .ref 21, .null, .int (nI 0), .null, .null, .null, .null]), aI 32 z0, aZ 8 z0, aZ 80 z0, aI 320 z0, aI 6 z0, .inl (0, 336, .inl (fun _ => nI 0))]) 6 782 _
  refine J.aload_n d_R_init_54 rfl rfl ?_
  refine J.bipush d_R_init_55 (v := nI 28) (by decide) ?_
  refine J.newI d_R_init_57 (by omega) rfl rfl rfl (by decide) (by decide) ?_
  refine J.putfield d_R_init_59 fs_R_29 rfl (Nat.le_of_ble_eq_true rfl) rfl rfl ?_
  show J l i_R_init 62 [(0, .ref 15), (1, .int x), (2, .int y)] [] (CS L xs K Mo ++ [.inr (4, [.int 0, .int 0, .int (nI 0), .ref 16, .int (nI 0), .ref 17, .ref 18, .ref 19, .ref 20, .ref 21, .ref 22, .int (nI 0), .null, .null, .null, .null]), aI 32 z0, aZ 8 z0, aZ 80 z0, aI 320 z0, aI 6 z0, .inl (0, 336, .inl (fun _ => nI 0)), aI 28 z0]) 7 810 _
  refine J.aload_n d_R_init_62 rfl rfl ?_
  refine J.bipush d_R_init_63 (v := nI 32) (by decide) ?_
  refine J.newI d_R_init_65 (by omega) rfl rfl rfl (by decide) (by decide) ?_
  refine J.putfield d_R_init_67 fs_R_32 rfl (Nat.le_of_ble_eq_true rfl) rfl rfl ?_
  show J l i_R_init 70 [(0, .ref 15), (1, .int x), (2, .int y)] [] (CS L xs K Mo ++ [.inr (4, [.int 0, .int 0, .int (nI 0), .ref 16, .int (nI 0), .ref 17, .ref 18, .ref 19, .ref 20, .ref 21, .ref 22, .int (nI 0), .ref 23, .null, .null, .null]), aI 32 z0, aZ 8 z0, aZ 80 z0, aI 320 z0, aI 6 z0, .inl (0, 336, .inl (fun _ => nI 0)), aI 28 z0, aI 32 z0]) 8 842 _
  refine J.aload_n d_R_init_70 rfl rfl ?_
  refine J.bipush d_R_init_71 (v := nI 32) (by decide) ?_
  refine J.newI d_R_init_73 (by omega) rfl rfl rfl (by decide) (by decide) ?_
  refine J.putfield d_R_init_75 fs_R_35 rfl (Nat.le_of_ble_eq_true rfl) rfl rfl ?_
  show J l i_R_init 78 [(0, .ref 15), (1, .int x), (2, .int y)] [] (CS L xs K Mo ++ [.inr (4, [.int 0, .int 0, .int (nI 0), .ref 16, .int (nI 0), .ref 17, .ref 18, .ref 19, .ref 20, .ref 21, .ref 22, .int (nI 0), .ref 23, .ref 24, .null, .null]), aI 32 z0, aZ 8 z0, aZ 80 z0, aI 320 z0, aI 6 z0, .inl (0, 336, .inl (fun _ => nI 0)), aI 28 z0, aI 32 z0, aI 32 z0]) 9 874 _
  refine J.aload_n d_R_init_78 rfl rfl ?_
  refine J.bipush d_R_init_79 (v := nI 16) (by decide) ?_
  refine J.newI d_R_init_81 (by omega) rfl rfl rfl (by decide) (by decide) ?_
  refine J.putfield d_R_init_83 fs_R_38 rfl (Nat.le_of_ble_eq_true rfl) rfl rfl ?_
  show J l i_R_init 86 [(0, .ref 15), (1, .int x), (2, .int y)] [] (CS L xs K Mo ++ [.inr (4, [.int 0, .int 0, .int (nI 0), .ref 16, .int (nI 0), .ref 17, .ref 18, .ref 19, .ref 20, .ref 21, .ref 22, .int (nI 0), .ref 23, .ref 24, .ref 25, .null]), aI 32 z0, aZ 8 z0, aZ 80 z0, aI 320 z0, aI 6 z0, .inl (0, 336, .inl (fun _ => nI 0)), aI 28 z0, aI 32 z0, aI 32 z0, aI 16 z0]) 10 890 _
  refine J.aload_n d_R_init_86 rfl rfl ?_
  refine J.bipush d_R_init_87 (v := nI 20) (by decide) ?_
  refine J.newI d_R_init_89 (by omega) rfl rfl rfl (by decide) (by decide) ?_
  refine J.putfield d_R_init_91 fs_R_41 rfl (Nat.le_of_ble_eq_true rfl) rfl rfl ?_
  show J l i_R_init 94 [(0, .ref 15), (1, .int x), (2, .int y)] [] (CS L xs K Mo ++ [.inr (4, [.int 0, .int 0, .int (nI 0), .ref 16, .int (nI 0), .ref 17, .ref 18, .ref 19, .ref 20, .ref 21, .ref 22, .int (nI 0), .ref 23, .ref 24, .ref 25, .ref 26]), aI 32 z0, aZ 8 z0, aZ 80 z0, aI 320 z0, aI 6 z0, .inl (0, 336, .inl (fun _ => nI 0)), aI 28 z0, aI 32 z0, aI 32 z0, aI 16 z0, aI 20 z0]) 11 910 _
  exact k0
end INITR
