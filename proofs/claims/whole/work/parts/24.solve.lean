/-! The class's solving of a stripe's equations -/
section SOLVE
variable {l : Launch} {K Mo dl ol : Nat} {dr ou da eq al fr tk by_ ln pl : Nat → Nat} {X : List va_E}
theorem dm_div {a b n : Nat} (hb : b < n) : (a * n + b) / n = a := by
  rw [Nat.add_comm, Nat.add_mul_div_right _ _ (by omega), Nat.div_eq_of_lt hb, Nat.zero_add]
theorem dm_mod {a b n : Nat} (hb : b < n) : (a * n + b) % n = b := by
  rw [Nat.add_comm, Nat.add_mul_mod_self_right, Nat.mod_eq_of_lt hb]
theorem dm_ne {a b n q : Nat} (h : ¬ q = a * n + b) : ¬ (q / n = a ∧ q % n = b) := by
  rintro ⟨h1, h2⟩
  have := Nat.div_add_mod q n
  rw [h1, h2, Nat.mul_comm] at this
  exact h this.symm
/-- a row's first n columns times f -/
def mulR (N : Nat) (eq : Nat → Nat) (line f n : Nat) : Nat → Nat := fun i => if i / N = line ∧ i % N < n then gm (eq i) f else eq i
theorem mulR_0 (N : Nat) (eq : Nat → Nat) (line f : Nat) : mulR N eq line f 0 = eq := by funext i; simp [mulR]
theorem mulR_at {N : Nat} {eq : Nat → Nat} {line f n : Nat} (hn : n < N) : mulR N eq line f n (line * N + n) = eq (line * N + n) := by
  simp [mulR, dm_mod hn]
theorem mulR_up {N : Nat} {eq : Nat → Nat} {line f n : Nat} (hn : n < N) : up (mulR N eq line f n) (line * N + n) (gm (eq (line * N + n)) f) = mulR N eq line f (n + 1) := by
  funext q
  by_cases hq : q = line * N + n
  · subst hq; simp [up, mulR, dm_mod hn, dm_div hn]
  · have h9 := dm_ne hq
    simp only [up, mulR, if_neg hq]
    have : (q / N = line ∧ q % N < n + 1) ↔ (q / N = line ∧ q % N < n) := by
      constructor
      · rintro ⟨a, b⟩; exact ⟨a, by rcases Nat.lt_or_ge (q % N) n with z | z; exact z; exact absurd ⟨a, by omega⟩ h9⟩
      · rintro ⟨a, b⟩; exact ⟨a, by omega⟩
    simp only [this]
theorem mulR_lt {N : Nat} {eq : Nat → Nat} {line f n : Nat} (h : ∀ i, eq i < 256) (i : Nat) : mulR N eq line f n i < 256 := by
  unfold mulR; split
  · exact gm_lt (h i)
  · exact h i
/-- .. and f times another row added -/
def addR (N : Nat) (eq : Nat → Nat) (line src f n : Nat) : Nat → Nat := fun i => if i / N = line ∧ i % N < n then eq i ^^^ gm (eq (src * N + i % N)) f else eq i
theorem addR_0 (N : Nat) (eq : Nat → Nat) (line src f : Nat) : addR N eq line src f 0 = eq := by funext i; simp [addR]
theorem addR_at {N : Nat} {eq : Nat → Nat} {line src f n : Nat} (hn : n < N) : addR N eq line src f n (line * N + n) = eq (line * N + n) := by
  simp [addR, dm_mod hn]
theorem addR_src {N : Nat} {eq : Nat → Nat} {line src f n c : Nat} (hc : c < N) (hne : line ≠ src) : addR N eq line src f n (src * N + c) = eq (src * N + c) := by
  simp only [addR, dm_div hc]; rw [if_neg (fun h => hne h.1.symm)]
theorem addR_up {N : Nat} {eq : Nat → Nat} {line src f n : Nat} (hn : n < N) : up (addR N eq line src f n) (line * N + n) (eq (line * N + n) ^^^ gm (eq (src * N + n)) f) = addR N eq line src f (n + 1) := by
  funext q
  by_cases hq : q = line * N + n
  · subst hq; simp [up, addR, dm_mod hn, dm_div hn]
  · have h9 := dm_ne hq
    simp only [up, addR, if_neg hq]
    have : (q / N = line ∧ q % N < n + 1) ↔ (q / N = line ∧ q % N < n) := by
      constructor
      · rintro ⟨a, b⟩; exact ⟨a, by rcases Nat.lt_or_ge (q % N) n with z | z; exact z; exact absurd ⟨a, by omega⟩ h9⟩
      · rintro ⟨a, b⟩; exact ⟨a, by omega⟩
    simp only [this]
theorem addR_lt {N : Nat} {eq : Nat → Nat} {line src f n : Nat} (h : ∀ i, eq i < 256) (i : Nat) : addR N eq line src f n i < 256 := by
  unfold addR; split
  · exact xor_lt (h i) (gm_lt (h _))
  · exact h i
theorem lp_C_mul1 {line f : Nat} (hK : 0 < K) (hK4 : K ≤ 4) (hl : line < K) (hf : f < 256) (he : ∀ i, eq i < 256) {out : Out}
    (kk : ∀ lv, lv = [(0, Value.ref 1), (1, .int (nI line)), (2, .int (nI f)), (3, .int (nI K))] ∨ (∃ x, lv = [(0, Value.ref 1), (1, .int (nI line)), (2, .int (nI f)), (3, .int (nI K)), (4, .int (nI x))]) → J l i_C_multiplyLine 44 lv [] (CM K Mo dr dl ou ol da (mulR K eq line f K) al fr tk by_ ln pl X) 0 0 out) : ∀ (j i : Nat), i + j = K → ∀ lv, lv = [(0, Value.ref 1), (1, .int (nI line)), (2, .int (nI f)), (3, .int (nI i))] ∨ (∃ x, lv = [(0, Value.ref 1), (1, .int (nI line)), (2, .int (nI f)), (3, .int (nI i)), (4, .int (nI x))]) →
    J l i_C_multiplyLine 2 lv [] (CM K Mo dr dl ou ol da (mulR K eq line f i) al fr tk by_ ln pl X) 0 0 out
  | 0, i, hi, lv, hlv => by
    have hi' : i = K := by omega
    subst hi'
    rcases hlv with rfl | ⟨x, rfl⟩
    · refine J.iload_n d_C_multiplyLine_2 rfl rfl ?_
      refine J.aload_n d_C_multiplyLine_3 rfl rfl ?_
      refine J.getfield d_C_multiplyLine_4 fl_C_9 rfl rfl ?_
      refine J.icmp_geN d_C_multiplyLine_7 (tgt := 44) (by decide) (by omega) (by omega) (fun h => ?_) (fun h => ?_)
      · exact kk _ (Or.inl rfl)
      · omega
    · refine J.iload_n d_C_multiplyLine_2 rfl rfl ?_
      refine J.aload_n d_C_multiplyLine_3 rfl rfl ?_
      refine J.getfield d_C_multiplyLine_4 fl_C_9 rfl rfl ?_
      refine J.icmp_geN d_C_multiplyLine_7 (tgt := 44) (by decide) (by omega) (by omega) (fun h => ?_) (fun h => ?_)
      · exact kk _ (Or.inr ⟨x, rfl⟩)
      · omega
  | j + 1, i, hi, lv, hlv => by
    have hx := mulb hl (show i < K by omega)
    have hy4 : K * K ≤ 4 * 4 := Nat.mul_le_mul hK4 hK4
    have hin : i < K := by omega
    have ih := lp_C_mul1 hK hK4 hl hf he kk j (i + 1) (by omega) _ (Or.inr ⟨line * K + i, rfl⟩)
    rw [← mulR_up hin] at ih
    rcases hlv with rfl | ⟨x, rfl⟩
    · refine J.iload_n d_C_multiplyLine_2 rfl rfl ?_
      refine J.aload_n d_C_multiplyLine_3 rfl rfl ?_
      refine J.getfield d_C_multiplyLine_4 fl_C_9 rfl rfl ?_
      refine J.icmp_geN d_C_multiplyLine_7 (tgt := 44) (by decide) (by omega) (by omega) (fun h => ?_) (fun h => ?_)
      · omega
      refine J.iload_n d_C_multiplyLine_10 rfl rfl ?_
      refine J.aload_n d_C_multiplyLine_11 rfl rfl ?_
      refine J.getfield d_C_multiplyLine_12 fl_C_9 rfl rfl ?_
      refine J.imulN d_C_multiplyLine_15 ?_
      refine J.iload_n d_C_multiplyLine_16 rfl rfl ?_
      refine J.iaddN d_C_multiplyLine_17 ?_
      refine J.istore d_C_multiplyLine_18 (by decide) rfl ?_
      refine J.aload_n d_C_multiplyLine_20 rfl rfl ?_
      refine J.getfield d_C_multiplyLine_21 fl_C_25 rfl rfl ?_
      refine J.iload d_C_multiplyLine_24 rfl ?_
      refine J.aload_n d_C_multiplyLine_26 rfl rfl ?_
      refine J.getfield d_C_multiplyLine_27 fl_C_25 rfl rfl ?_
      refine J.iload d_C_multiplyLine_30 rfl ?_
      refine J.ialoadN d_C_multiplyLine_32 rfl (by omega) (by omega) ?_
      refine J.iload_n d_C_multiplyLine_33 rfl rfl ?_
      rw [mulR_at hin]
      refine J.n2i (con_V_times (he _) hf _) k_C_multiplyLine_V_times d_C_multiplyLine_34 rfl ?_
      refine J.iastoreN d_C_multiplyLine_37 rfl (by omega) (by omega) ?_
      refine J.iincN d_C_multiplyLine_38 rfl rfl (by decide) rfl ?_
      refine J.goto d_C_multiplyLine_41 (tgt := 2) (by decide) ?_
      exact ih
    · refine J.iload_n d_C_multiplyLine_2 rfl rfl ?_
      refine J.aload_n d_C_multiplyLine_3 rfl rfl ?_
      refine J.getfield d_C_multiplyLine_4 fl_C_9 rfl rfl ?_
      refine J.icmp_geN d_C_multiplyLine_7 (tgt := 44) (by decide) (by omega) (by omega) (fun h => ?_) (fun h => ?_)
      · omega
      refine J.iload_n d_C_multiplyLine_10 rfl rfl ?_
      refine J.aload_n d_C_multiplyLine_11 rfl rfl ?_
      refine J.getfield d_C_multiplyLine_12 fl_C_9 rfl rfl ?_
      refine J.imulN d_C_multiplyLine_15 ?_
      refine J.iload_n d_C_multiplyLine_16 rfl rfl ?_
      refine J.iaddN d_C_multiplyLine_17 ?_
      refine J.istore d_C_multiplyLine_18 (by decide) rfl ?_
      refine J.aload_n d_C_multiplyLine_20 rfl rfl ?_
      refine J.getfield d_C_multiplyLine_21 fl_C_25 rfl rfl ?_
      refine J.iload d_C_multiplyLine_24 rfl ?_
      refine J.aload_n d_C_multiplyLine_26 rfl rfl ?_
      refine J.getfield d_C_multiplyLine_27 fl_C_25 rfl rfl ?_
      refine J.iload d_C_multiplyLine_30 rfl ?_
      refine J.ialoadN d_C_multiplyLine_32 rfl (by omega) (by omega) ?_
      refine J.iload_n d_C_multiplyLine_33 rfl rfl ?_
      rw [mulR_at hin]
      refine J.n2i (con_V_times (he _) hf _) k_C_multiplyLine_V_times d_C_multiplyLine_34 rfl ?_
      refine J.iastoreN d_C_multiplyLine_37 rfl (by omega) (by omega) ?_
      refine J.iincN d_C_multiplyLine_38 rfl rfl (by decide) rfl ?_
      refine J.goto d_C_multiplyLine_41 (tgt := 2) (by decide) ?_
      exact ih
theorem lp_C_mul2 {line f : Nat} (hK : 0 < K) (hK4 : K ≤ 4) (hl : line < K) (hf : f < 256) (hda : ∀ i, da i < 256) : ∀ (j i : Nat), i + j = 4 → ∀ lv, lv = [(0, Value.ref 1), (1, .int (nI line)), (2, .int (nI f)), (3, .int (nI i))] ∨ (∃ x, lv = [(0, Value.ref 1), (1, .int (nI line)), (2, .int (nI f)), (3, .int (nI i)), (4, .int (nI x))]) →
    J l i_C_multiplyLine 46 lv [] (CM K Mo dr dl ou ol (mulR 4 da line f i) eq al fr tk by_ ln pl X) 0 0 (.inl (none, (CM K Mo dr dl ou ol (mulR 4 da line f 4) eq al fr tk by_ ln pl X)))
  | 0, i, hi, lv, hlv => by
    have hi' : i = 4 := by omega
    subst hi'
    rcases hlv with rfl | ⟨x, rfl⟩
    · refine J.iload_n d_C_multiplyLine_46 rfl rfl ?_
      refine J.iconst d_C_multiplyLine_47 (v := nI 4) (by decide) ?_
      refine J.icmp_geN d_C_multiplyLine_48 (tgt := 82) (by decide) (by omega) (by omega) (fun h => ?_) (fun h => ?_)
      · exact J.vreturn d_C_multiplyLine_82 rfl (by decide) (by decide)
      · omega
    · refine J.iload_n d_C_multiplyLine_46 rfl rfl ?_
      refine J.iconst d_C_multiplyLine_47 (v := nI 4) (by decide) ?_
      refine J.icmp_geN d_C_multiplyLine_48 (tgt := 82) (by decide) (by omega) (by omega) (fun h => ?_) (fun h => ?_)
      · exact J.vreturn d_C_multiplyLine_82 rfl (by decide) (by decide)
      · omega
  | j + 1, i, hi, lv, hlv => by
    have hin : i < 4 := by omega
    have ih := lp_C_mul2 hK hK4 hl hf hda j (i + 1) (by omega) _ (Or.inr ⟨line * 4 + i, rfl⟩)
    rw [← mulR_up hin] at ih
    rcases hlv with rfl | ⟨x, rfl⟩
    · refine J.iload_n d_C_multiplyLine_46 rfl rfl ?_
      refine J.iconst d_C_multiplyLine_47 (v := nI 4) (by decide) ?_
      refine J.icmp_geN d_C_multiplyLine_48 (tgt := 82) (by decide) (by omega) (by omega) (fun h => ?_) (fun h => ?_)
      · omega
      refine J.iload_n d_C_multiplyLine_51 rfl rfl ?_
      refine J.iconst d_C_multiplyLine_52 (v := nI 4) (by decide) ?_
      refine J.imulN d_C_multiplyLine_53 ?_
      refine J.iload_n d_C_multiplyLine_54 rfl rfl ?_
      refine J.iaddN d_C_multiplyLine_55 ?_
      refine J.istore d_C_multiplyLine_56 (by decide) rfl ?_
      refine J.aload_n d_C_multiplyLine_58 rfl rfl ?_
      refine J.getfield d_C_multiplyLine_59 fl_C_21 rfl rfl ?_
      refine J.iload d_C_multiplyLine_62 rfl ?_
      refine J.aload_n d_C_multiplyLine_64 rfl rfl ?_
      refine J.getfield d_C_multiplyLine_65 fl_C_21 rfl rfl ?_
      refine J.iload d_C_multiplyLine_68 rfl ?_
      refine J.ialoadN d_C_multiplyLine_70 rfl (by omega) (by omega) ?_
      refine J.iload_n d_C_multiplyLine_71 rfl rfl ?_
      rw [mulR_at hin]
      refine J.n2i (con_V_times (hda _) hf _) k_C_multiplyLine_V_times d_C_multiplyLine_72 rfl ?_
      refine J.iastoreN d_C_multiplyLine_75 rfl (by omega) (by omega) ?_
      refine J.iincN d_C_multiplyLine_76 rfl rfl (by decide) rfl ?_
      refine J.goto d_C_multiplyLine_79 (tgt := 46) (by decide) ?_
      exact ih
    · refine J.iload_n d_C_multiplyLine_46 rfl rfl ?_
      refine J.iconst d_C_multiplyLine_47 (v := nI 4) (by decide) ?_
      refine J.icmp_geN d_C_multiplyLine_48 (tgt := 82) (by decide) (by omega) (by omega) (fun h => ?_) (fun h => ?_)
      · omega
      refine J.iload_n d_C_multiplyLine_51 rfl rfl ?_
      refine J.iconst d_C_multiplyLine_52 (v := nI 4) (by decide) ?_
      refine J.imulN d_C_multiplyLine_53 ?_
      refine J.iload_n d_C_multiplyLine_54 rfl rfl ?_
      refine J.iaddN d_C_multiplyLine_55 ?_
      refine J.istore d_C_multiplyLine_56 (by decide) rfl ?_
      refine J.aload_n d_C_multiplyLine_58 rfl rfl ?_
      refine J.getfield d_C_multiplyLine_59 fl_C_21 rfl rfl ?_
      refine J.iload d_C_multiplyLine_62 rfl ?_
      refine J.aload_n d_C_multiplyLine_64 rfl rfl ?_
      refine J.getfield d_C_multiplyLine_65 fl_C_21 rfl rfl ?_
      refine J.iload d_C_multiplyLine_68 rfl ?_
      refine J.ialoadN d_C_multiplyLine_70 rfl (by omega) (by omega) ?_
      refine J.iload_n d_C_multiplyLine_71 rfl rfl ?_
      rw [mulR_at hin]
      refine J.n2i (con_V_times (hda _) hf _) k_C_multiplyLine_V_times d_C_multiplyLine_72 rfl ?_
      refine J.iastoreN d_C_multiplyLine_75 rfl (by omega) (by omega) ?_
      refine J.iincN d_C_multiplyLine_76 rfl rfl (by decide) rfl ?_
      refine J.goto d_C_multiplyLine_79 (tgt := 46) (by decide) ?_
      exact ih
theorem con_C_multiplyLine {line f : Nat} (hK : 0 < K) (hK4 : K ≤ 4) (hl : line < K) (hf : f < 256) (he : ∀ i, eq i < 256) (hda : ∀ i, da i < 256) : Con l i_C_multiplyLine [.ref 1, .int (nI line), .int (nI f)] (CM K Mo dr dl ou ol da eq al fr tk by_ ln pl X) (.inl (none, (CM K Mo dr dl ou ol (mulR 4 da line f 4) (mulR K eq line f K) al fr tk by_ ln pl X))) := by
  refine Con.of ?_
  refine J.iconst d_C_multiplyLine_0 (v := nI 0) (by decide) ?_
  refine J.istore_n d_C_multiplyLine_1 rfl (by decide) rfl ?_
  have h1 := lp_C_mul1 (l := l) (Mo := Mo) (dl := dl) (ol := ol) (dr := dr) (ou := ou) (da := da) (al := al) (fr := fr) (tk := tk) (by_ := by_) (ln := ln) (pl := pl) (X := X) (out := .inl (none, (CM K Mo dr dl ou ol (mulR 4 da line f 4) (mulR K eq line f K) al fr tk by_ ln pl X))) hK hK4 hl hf he ?_ K 0 (by omega) _ (Or.inl rfl)
  · rw [mulR_0] at h1
    exact h1
  · intro lv hlv
    have h2 := fun lv h => lp_C_mul2 (l := l) (Mo := Mo) (dl := dl) (ol := ol) (dr := dr) (ou := ou) (eq := mulR K eq line f K) (al := al) (fr := fr) (tk := tk) (by_ := by_) (ln := ln) (pl := pl) (X := X) hK hK4 hl hf hda 4 0 (by omega) lv h
    rw [mulR_0] at h2
    rcases hlv with rfl | ⟨x, rfl⟩
    · refine J.iconst d_C_multiplyLine_44 (v := nI 0) (by decide) ?_
      refine J.istore_n d_C_multiplyLine_45 rfl (by decide) rfl ?_
      exact h2 _ (Or.inl rfl)
    · refine J.iconst d_C_multiplyLine_44 (v := nI 0) (by decide) ?_
      refine J.istore_n d_C_multiplyLine_45 rfl (by decide) rfl ?_
      exact h2 _ (Or.inr ⟨x, rfl⟩)
theorem lp_C_add1 {line src f : Nat} (hK : 0 < K) (hK4 : K ≤ 4) (hl : line < K) (hs : src < K) (hne : line ≠ src) (hf : f < 256) (he : ∀ i, eq i < 256) {out : Out}
    (kk : J l i_C_addLine 53 [(0, Value.ref 1), (1, .int (nI line)), (2, .int (nI src)), (3, .int (nI f)), (4, .int (nI K))] [] (CM K Mo dr dl ou ol da (addR K eq line src f K) al fr tk by_ ln pl X) 0 0 out) : ∀ (j i : Nat), i + j = K →
    J l i_C_addLine 3 [(0, Value.ref 1), (1, .int (nI line)), (2, .int (nI src)), (3, .int (nI f)), (4, .int (nI i))] [] (CM K Mo dr dl ou ol da (addR K eq line src f i) al fr tk by_ ln pl X) 0 0 out
  | 0, i, hi => by
    have hi' : i = K := by omega
    subst hi'
    refine J.iload d_C_addLine_3 rfl ?_
    refine J.aload_n d_C_addLine_5 rfl rfl ?_
    refine J.getfield d_C_addLine_6 fl_C_9 rfl rfl ?_
    refine J.icmp_geN d_C_addLine_9 (tgt := 53) (by decide) (by omega) (by omega) (fun h => ?_) (fun h => ?_)
    · exact kk
    · omega
  | j + 1, i, hi => by
    have hin : i < K := by omega
    have hx := mulb hl hin
    have hx2 := mulb hs hin
    have hy4 : K * K ≤ 4 * 4 := Nat.mul_le_mul hK4 hK4
    have ih := lp_C_add1 hK hK4 hl hs hne hf he kk j (i + 1) (by omega)
    rw [← addR_up hin] at ih
    refine J.iload d_C_addLine_3 rfl ?_
    refine J.aload_n d_C_addLine_5 rfl rfl ?_
    refine J.getfield d_C_addLine_6 fl_C_9 rfl rfl ?_
    refine J.icmp_geN d_C_addLine_9 (tgt := 53) (by decide) (by omega) (by omega) (fun h => ?_) (fun h => ?_)
    · omega
    refine J.aload_n d_C_addLine_12 rfl rfl ?_
    refine J.getfield d_C_addLine_13 fl_C_25 rfl rfl ?_
    refine J.iload_n d_C_addLine_16 rfl rfl ?_
    refine J.aload_n d_C_addLine_17 rfl rfl ?_
    refine J.getfield d_C_addLine_18 fl_C_9 rfl rfl ?_
    refine J.imulN d_C_addLine_21 ?_
    refine J.iload d_C_addLine_22 rfl ?_
    refine J.iaddN d_C_addLine_24 ?_
    refine J.dup2 d_C_addLine_25 rfl rfl ?_
    refine J.ialoadN d_C_addLine_26 rfl (by omega) (by omega) ?_
    refine J.aload_n d_C_addLine_27 rfl rfl ?_
    refine J.getfield d_C_addLine_28 fl_C_25 rfl rfl ?_
    refine J.iload_n d_C_addLine_31 rfl rfl ?_
    refine J.aload_n d_C_addLine_32 rfl rfl ?_
    refine J.getfield d_C_addLine_33 fl_C_9 rfl rfl ?_
    refine J.imulN d_C_addLine_36 ?_
    refine J.iload d_C_addLine_37 rfl ?_
    refine J.iaddN d_C_addLine_39 ?_
    refine J.ialoadN d_C_addLine_40 rfl (by omega) (by omega) ?_
    refine J.iload_n d_C_addLine_41 rfl rfl ?_
    rw [addR_at hin, addR_src hin hne]
    refine J.n2i (con_V_times (he _) hf _) k_C_addLine_V_times d_C_addLine_42 rfl ?_
    refine J.ixorN d_C_addLine_45 ?_
    refine J.iastoreN d_C_addLine_46 rfl (by omega) (by omega) ?_
    refine J.iincN d_C_addLine_47 rfl rfl (by decide) rfl ?_
    refine J.goto d_C_addLine_50 (tgt := 3) (by decide) ?_
    exact ih
theorem lp_C_add2 {line src f : Nat} (hK : 0 < K) (hK4 : K ≤ 4) (hl : line < K) (hs : src < K) (hne : line ≠ src) (hf : f < 256) (hda : ∀ i, da i < 256) : ∀ (j i : Nat), i + j = 4 →
    J l i_C_addLine 56 [(0, Value.ref 1), (1, .int (nI line)), (2, .int (nI src)), (3, .int (nI f)), (4, .int (nI i))] [] (CM K Mo dr dl ou ol (addR 4 da line src f i) eq al fr tk by_ ln pl X) 0 0 (.inl (none, (CM K Mo dr dl ou ol (addR 4 da line src f 4) eq al fr tk by_ ln pl X)))
  | 0, i, hi => by
    have hi' : i = 4 := by omega
    subst hi'
    refine J.iload d_C_addLine_56 rfl ?_
    refine J.iconst d_C_addLine_58 (v := nI 4) (by decide) ?_
    refine J.icmp_geN d_C_addLine_59 (tgt := 97) (by decide) (by omega) (by omega) (fun h => ?_) (fun h => ?_)
    · exact J.vreturn d_C_addLine_97 rfl (by decide) (by decide)
    · omega
  | j + 1, i, hi => by
    have hin : i < 4 := by omega
    have ih := lp_C_add2 hK hK4 hl hs hne hf hda j (i + 1) (by omega)
    rw [← addR_up hin] at ih
    refine J.iload d_C_addLine_56 rfl ?_
    refine J.iconst d_C_addLine_58 (v := nI 4) (by decide) ?_
    refine J.icmp_geN d_C_addLine_59 (tgt := 97) (by decide) (by omega) (by omega) (fun h => ?_) (fun h => ?_)
    · omega
    refine J.aload_n d_C_addLine_62 rfl rfl ?_
    refine J.getfield d_C_addLine_63 fl_C_21 rfl rfl ?_
    refine J.iload_n d_C_addLine_66 rfl rfl ?_
    refine J.iconst d_C_addLine_67 (v := nI 4) (by decide) ?_
    refine J.imulN d_C_addLine_68 ?_
    refine J.iload d_C_addLine_69 rfl ?_
    refine J.iaddN d_C_addLine_71 ?_
    refine J.dup2 d_C_addLine_72 rfl rfl ?_
    refine J.ialoadN d_C_addLine_73 rfl (by omega) (by omega) ?_
    refine J.aload_n d_C_addLine_74 rfl rfl ?_
    refine J.getfield d_C_addLine_75 fl_C_21 rfl rfl ?_
    refine J.iload_n d_C_addLine_78 rfl rfl ?_
    refine J.iconst d_C_addLine_79 (v := nI 4) (by decide) ?_
    refine J.imulN d_C_addLine_80 ?_
    refine J.iload d_C_addLine_81 rfl ?_
    refine J.iaddN d_C_addLine_83 ?_
    refine J.ialoadN d_C_addLine_84 rfl (by omega) (by omega) ?_
    refine J.iload_n d_C_addLine_85 rfl rfl ?_
    rw [addR_at hin, addR_src hin hne]
    refine J.n2i (con_V_times (hda _) hf _) k_C_addLine_V_times d_C_addLine_86 rfl ?_
    refine J.ixorN d_C_addLine_89 ?_
    refine J.iastoreN d_C_addLine_90 rfl (by omega) (by omega) ?_
    refine J.iincN d_C_addLine_91 rfl rfl (by decide) rfl ?_
    refine J.goto d_C_addLine_94 (tgt := 56) (by decide) ?_
    exact ih
theorem con_C_addLine {line src f : Nat} (hK : 0 < K) (hK4 : K ≤ 4) (hl : line < K) (hs : src < K) (hne : line ≠ src) (hf : f < 256) (he : ∀ i, eq i < 256) (hda : ∀ i, da i < 256) : Con l i_C_addLine [.ref 1, .int (nI line), .int (nI src), .int (nI f)] (CM K Mo dr dl ou ol da eq al fr tk by_ ln pl X) (.inl (none, (CM K Mo dr dl ou ol (addR 4 da line src f 4) (addR K eq line src f K) al fr tk by_ ln pl X))) := by
  refine Con.of ?_
  refine J.iconst d_C_addLine_0 (v := nI 0) (by decide) ?_
  refine J.istore d_C_addLine_1 (by decide) rfl ?_
  have h1 := lp_C_add1 (l := l) (Mo := Mo) (dl := dl) (ol := ol) (dr := dr) (ou := ou) (da := da) (al := al) (fr := fr) (tk := tk) (by_ := by_) (ln := ln) (pl := pl) (X := X) (out := .inl (none, (CM K Mo dr dl ou ol (addR 4 da line src f 4) (addR K eq line src f K) al fr tk by_ ln pl X))) hK hK4 hl hs hne hf he ?_ K 0 (by omega)
  · rw [addR_0] at h1
    exact h1
  · have h2 := lp_C_add2 (l := l) (Mo := Mo) (dl := dl) (ol := ol) (dr := dr) (ou := ou) (eq := addR K eq line src f K) (al := al) (fr := fr) (tk := tk) (by_ := by_) (ln := ln) (pl := pl) (X := X) hK hK4 hl hs hne hf hda 4 0 (by omega)
    rw [addR_0] at h2
    refine J.iconst d_C_addLine_53 (v := nI 0) (by decide) ?_
    refine J.istore d_C_addLine_54 (by decide) rfl ?_
    exact h2
end SOLVE
