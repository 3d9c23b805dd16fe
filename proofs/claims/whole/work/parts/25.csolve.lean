/-! The class's solving, whole -/
section CSOLVE
variable {l : Launch} {K Mo dl ol : Nat} {dr ou da eq al fr tk by_ ln pl : Nat → Nat} {X : List va_E}
abbrev ED : Type := (Nat → Nat) × (Nat → Nat)
def lnS (K p line : Nat) (x : ED) : ED := if line = p ∨ x.1 (line * K + p) = 0 then x else (addR K x.1 line p (x.1 (line * K + p)) K, addR 4 x.2 line p (x.1 (line * K + p)) 4)
def lns (K p : Nat) : Nat → ED → ED
  | 0, x => x
  | n + 1, x => lnS K p n (lns K p n x)
def pvS (K p : Nat) (x : ED) : ED := lns K p K (mulR K x.1 p (gi (x.1 (p * K + p))) K, mulR 4 x.2 p (gi (x.1 (p * K + p))) 4)
def pvs (K : Nat) : Nat → ED → ED
  | 0, x => x
  | n + 1, x => pvS K n (pvs K n x)
def b256 (x : ED) : Prop := (∀ i, x.1 i < 256) ∧ ∀ i, x.2 i < 256
theorem lnS_b {K p line : Nat} {x : ED} (h : b256 x) : b256 (lnS K p line x) := by
  unfold lnS; split
  · exact h
  · exact ⟨addR_lt h.1, addR_lt h.2⟩
theorem lns_b {K p : Nat} {x : ED} (h : b256 x) : ∀ n, b256 (lns K p n x)
  | 0 => h
  | n + 1 => lnS_b (lns_b h n)
theorem pvS_b {K p : Nat} {x : ED} (h : b256 x) : b256 (pvS K p x) := lns_b ⟨mulR_lt h.1, mulR_lt h.2⟩ K
theorem pvs_b {K : Nat} {x : ED} (h : b256 x) : ∀ n, b256 (pvs K n x)
  | 0 => h
  | n + 1 => pvS_b (pvs_b h n)
theorem lp_C_sol2 {p : Nat} {x : ED} (hK : 0 < K) (hK4 : K ≤ 4) (hp : p < K) (hb : b256 x) {out : Out}
    (kk : J l i_C_solve 77 [(0, Value.ref 1), (1, .int (nI p))] [] (CM K Mo dr dl ou ol ((lns K p K x).2) ((lns K p K x).1) al fr tk by_ ln pl X) 0 0 out) : ∀ (j i : Nat), i + j = K →
    J l i_C_solve 33 [(0, Value.ref 1), (1, .int (nI p)), (2, .int (nI i))] [] (CM K Mo dr dl ou ol ((lns K p i x).2) ((lns K p i x).1) al fr tk by_ ln pl X) 0 0 out
  | 0, i, hi => by
    have hi' : i = K := by omega
    subst hi'
    refine J.iload_n d_C_solve_33 rfl rfl ?_
    refine J.aload_n d_C_solve_34 rfl rfl ?_
    refine J.getfield d_C_solve_35 fl_C_9 rfl rfl ?_
    refine J.icmp_geN d_C_solve_38 (tgt := 77) (by decide) (by omega) (by omega) (fun h => ?_) (fun h => ?_)
    · exact J.sub [0, 1] kk
    · omega
  | j + 1, i, hi => by
    have hin : i < K := by omega
    have hx := mulb hin hp
    have hy4 : K * K ≤ 4 * 4 := Nat.mul_le_mul hK4 hK4
    have ih := lp_C_sol2 hK hK4 hp hb kk j (i + 1) (by omega)
    have hbi := lns_b (K := K) (p := p) hb i
    have hf := hbi.1 (i * K + p)
    refine J.iload_n d_C_solve_33 rfl rfl ?_
    refine J.aload_n d_C_solve_34 rfl rfl ?_
    refine J.getfield d_C_solve_35 fl_C_9 rfl rfl ?_
    refine J.icmp_geN d_C_solve_38 (tgt := 77) (by decide) (by omega) (by omega) (fun h => ?_) (fun h => ?_)
    · omega
    refine J.aload_n d_C_solve_41 rfl rfl ?_
    refine J.getfield d_C_solve_42 fl_C_25 rfl rfl ?_
    refine J.iload_n d_C_solve_45 rfl rfl ?_
    refine J.aload_n d_C_solve_46 rfl rfl ?_
    refine J.getfield d_C_solve_47 fl_C_9 rfl rfl ?_
    refine J.imulN d_C_solve_50 ?_
    refine J.iload_n d_C_solve_51 rfl rfl ?_
    refine J.iaddN d_C_solve_52 ?_
    refine J.ialoadN d_C_solve_53 rfl (by omega) (by omega) ?_
    refine J.istore_n d_C_solve_54 rfl (by decide) rfl ?_
    refine J.iload_n d_C_solve_55 rfl rfl ?_
    refine J.iload_n d_C_solve_56 rfl rfl ?_
    refine J.icmp_eqN d_C_solve_57 (tgt := 71) (by decide) (by omega) (by omega) (fun h2 => ?_) (fun h2 => ?_)
    · have e : lns K p (i + 1) x = lns K p i x := by simp [lns, lnS, h2]
      rw [e] at ih
      refine J.iincN d_C_solve_71 rfl rfl (by decide) rfl ?_
      refine J.goto d_C_solve_74 (tgt := 33) (by decide) ?_
      exact J.sub [0, 1, 2] ih
    refine J.iload_n d_C_solve_60 rfl rfl ?_
    refine J.if_eqN d_C_solve_61 (tgt := 71) (by decide) (by omega) (fun h3 => ?_) (fun h3 => ?_)
    · have e : lns K p (i + 1) x = lns K p i x := by simp [lns, lnS, h3]
      rw [e] at ih
      refine J.iincN d_C_solve_71 rfl rfl (by decide) rfl ?_
      refine J.goto d_C_solve_74 (tgt := 33) (by decide) ?_
      exact J.sub [0, 1, 2] ih
    · have e : lns K p (i + 1) x = (addR K (lns K p i x).1 i p ((lns K p i x).1 (i * K + p)) K, addR 4 (lns K p i x).2 i p ((lns K p i x).1 (i * K + p)) 4) := by
        show lnS K p i (lns K p i x) = _
        unfold lnS; rw [if_neg (by omega)]
      rw [e] at ih
      refine J.aload_n d_C_solve_64 rfl rfl ?_
      refine J.iload_n d_C_solve_65 rfl rfl ?_
      refine J.iload_n d_C_solve_66 rfl rfl ?_
      refine J.iload_n d_C_solve_67 rfl rfl ?_
      refine J.v3v (con_C_addLine hK hK4 hin hp h2 hf hbi.1 hbi.2) k_C_solve_C_addLine d_C_solve_68 rfl rfl rfl ?_
      refine J.iincN d_C_solve_71 rfl rfl (by decide) rfl ?_
      refine J.goto d_C_solve_74 (tgt := 33) (by decide) ?_
      exact J.sub [0, 1, 2] ih
theorem lp_C_sol1 {x : ED} (hK : 0 < K) (hK4 : K ≤ 4) (hb : b256 x) : ∀ (j i : Nat), i + j = K →
    J l i_C_solve 2 [(0, Value.ref 1), (1, .int (nI i))] [] (CM K Mo dr dl ou ol ((pvs K i x).2) ((pvs K i x).1) al fr tk by_ ln pl X) 0 0 (.inl (none, (CM K Mo dr dl ou ol ((pvs K K x).2) ((pvs K K x).1) al fr tk by_ ln pl X)))
  | 0, i, hi => by
    have hi' : i = K := by omega
    subst hi'
    refine J.iload_n d_C_solve_2 rfl rfl ?_
    refine J.aload_n d_C_solve_3 rfl rfl ?_
    refine J.getfield d_C_solve_4 fl_C_9 rfl rfl ?_
    refine J.icmp_geN d_C_solve_7 (tgt := 83) (by decide) (by omega) (by omega) (fun h => ?_) (fun h => ?_)
    · exact J.vreturn d_C_solve_83 rfl (by decide) (by decide)
    · omega
  | j + 1, i, hi => by
    have hin : i < K := by omega
    have hx := mulb hin hin
    have hy4 : K * K ≤ 4 * 4 := Nat.mul_le_mul hK4 hK4
    have ih := lp_C_sol1 hK hK4 hb j (i + 1) (by omega)
    have hbi := pvs_b (K := K) hb i
    have hf := hbi.1 (i * K + i)
    refine J.iload_n d_C_solve_2 rfl rfl ?_
    refine J.aload_n d_C_solve_3 rfl rfl ?_
    refine J.getfield d_C_solve_4 fl_C_9 rfl rfl ?_
    refine J.icmp_geN d_C_solve_7 (tgt := 83) (by decide) (by omega) (by omega) (fun h => ?_) (fun h => ?_)
    · omega
    refine J.aload_n d_C_solve_10 rfl rfl ?_
    refine J.iload_n d_C_solve_11 rfl rfl ?_
    refine J.aload_n d_C_solve_12 rfl rfl ?_
    refine J.getfield d_C_solve_13 fl_C_25 rfl rfl ?_
    refine J.iload_n d_C_solve_16 rfl rfl ?_
    refine J.aload_n d_C_solve_17 rfl rfl ?_
    refine J.getfield d_C_solve_18 fl_C_9 rfl rfl ?_
    refine J.imulN d_C_solve_21 ?_
    refine J.iload_n d_C_solve_22 rfl rfl ?_
    refine J.iaddN d_C_solve_23 ?_
    refine J.ialoadN d_C_solve_24 rfl (by omega) (by omega) ?_
    refine J.n1i (con_V_inverse hf _) k_C_solve_V_inverse d_C_solve_25 rfl ?_
    refine J.v2v (con_C_multiplyLine hK hK4 hin (gi_lt _) hbi.1 hbi.2) k_C_solve_C_multiplyLine d_C_solve_28 rfl rfl rfl ?_
    refine J.iconst d_C_solve_31 (v := nI 0) (by decide) ?_
    refine J.istore_n d_C_solve_32 rfl (by decide) rfl ?_
    refine lp_C_sol2 (x := (mulR K (pvs K i x).1 i (gi ((pvs K i x).1 (i * K + i))) K, mulR 4 (pvs K i x).2 i (gi ((pvs K i x).1 (i * K + i))) 4)) hK hK4 hin ⟨mulR_lt hbi.1, mulR_lt hbi.2⟩ ?_ K 0 (by omega)
    refine J.iincN d_C_solve_77 rfl rfl (by decide) rfl ?_
    refine J.goto d_C_solve_80 (tgt := 2) (by decide) ?_
    exact ih
theorem con_C_solve (hK : 0 < K) (hK4 : K ≤ 4) (he : ∀ i, eq i < 256) (hda : ∀ i, da i < 256) : Con l i_C_solve [.ref 1] (CM K Mo dr dl ou ol da eq al fr tk by_ ln pl X) (.inl (none, (CM K Mo dr dl ou ol ((pvs K K (eq, da)).2) ((pvs K K (eq, da)).1) al fr tk by_ ln pl X))) := by
  refine Con.of ?_
  refine J.iconst d_C_solve_0 (v := nI 0) (by decide) ?_
  refine J.istore_n d_C_solve_1 rfl (by decide) rfl ?_
  exact lp_C_sol1 (x := (eq, da)) hK hK4 ⟨he, hda⟩ K 0 (by omega)
end CSOLVE
