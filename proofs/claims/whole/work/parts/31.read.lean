/-! Reading a stripe: the class's side -/
section READ
variable {l : Launch} {K Mo dl ol : Nat} {dr ou da eq al us by_ ln pl : Nat → Nat} {X : List va_E}
/-- the draft's stripe s as data, its first n -/
def td (K : Nat) (dr : Nat → Nat) (dl s : Nat) (da : Nat → Nat) (n : Nat) : Nat → Nat := fun i => if i < n then (if s * (4 * K) + i < dl then dr (s * (4 * K) + i) else 0) else da i
theorem td_0 (K : Nat) (dr : Nat → Nat) (dl s : Nat) (da : Nat → Nat) : td K dr dl s da 0 = da := by funext i; simp [td]
theorem td_up {K : Nat} {dr : Nat → Nat} {dl s : Nat} {da : Nat → Nat} {n : Nat} : up (td K dr dl s da n) n (if s * (4 * K) + n < dl then dr (s * (4 * K) + n) else 0) = td K dr dl s da (n + 1) := by
  funext i
  by_cases hi : i = n
  · subst hi; simp [up, td]
  · simp only [up, if_neg hi, td]
    have : (i < n + 1) ↔ i < n := by omega
    simp only [this]
theorem lp_V_take {s : Nat} (hK4 : K ≤ 4) (hdl : dl ≤ 32) (hs : s < 8) : ∀ (j i : Nat), i + j = 4 * K →
    J l i_V_takeDataFromDraft 12 [(0, .ref 0), (1, .int (nI s)), (2, .int (nI (s * (4 * K)))), (3, .int (nI i))] [] (CA K Mo dr dl ou ol (td K dr dl s da i) eq al us by_ ln pl X) 0 0 (.inl (none, (CA K Mo dr dl ou ol (td K dr dl s da (4 * K)) eq al us by_ ln pl X)))
  | 0, i, hi => by
    have h1 : s * (4 * K) ≤ 8 * (4 * 4) := Nat.mul_le_mul (by omega) (by omega)
    refine J.iload_n d_V_takeDataFromDraft_12 rfl rfl ?_
    refine J.aload_n d_V_takeDataFromDraft_13 rfl rfl ?_
    refine J.getfield d_V_takeDataFromDraft_14 fl_V_18 rfl rfl ?_
    refine J.getfield d_V_takeDataFromDraft_17 fl_V_184 rfl rfl ?_
    refine J.icmp_geN d_V_takeDataFromDraft_20 (tgt := 60) (by decide) (by omega) (by omega) (fun h => ?_) (fun h => ?_)
    · rw [show i = 4 * K by omega]
      exact J.vreturn d_V_takeDataFromDraft_60 rfl (by decide) (by decide)
    · omega
  | j + 1, i, hi => by
    have h1 : s * (4 * K) ≤ 8 * (4 * 4) := Nat.mul_le_mul (by omega) (by omega)
    have ih := lp_V_take hK4 hdl hs j (i + 1) (by omega)
    rw [← td_up] at ih
    refine J.iload_n d_V_takeDataFromDraft_12 rfl rfl ?_
    refine J.aload_n d_V_takeDataFromDraft_13 rfl rfl ?_
    refine J.getfield d_V_takeDataFromDraft_14 fl_V_18 rfl rfl ?_
    refine J.getfield d_V_takeDataFromDraft_17 fl_V_184 rfl rfl ?_
    refine J.icmp_geN d_V_takeDataFromDraft_20 (tgt := 60) (by decide) (by omega) (by omega) (fun h => ?_) (fun h => ?_)
    · omega
    refine J.aload_n d_V_takeDataFromDraft_23 rfl rfl ?_
    refine J.getfield d_V_takeDataFromDraft_24 fl_V_18 rfl rfl ?_
    refine J.getfield d_V_takeDataFromDraft_27 fl_V_187 rfl rfl ?_
    refine J.iload_n d_V_takeDataFromDraft_30 rfl rfl ?_
    refine J.iload_n d_V_takeDataFromDraft_31 rfl rfl ?_
    refine J.iload_n d_V_takeDataFromDraft_32 rfl rfl ?_
    refine J.iaddN d_V_takeDataFromDraft_33 ?_
    refine J.aload_n d_V_takeDataFromDraft_34 rfl rfl ?_
    refine J.getfield d_V_takeDataFromDraft_35 fl_V_40 rfl rfl ?_
    refine J.icmp_geN d_V_takeDataFromDraft_38 (tgt := 52) (by decide) (by omega) (by omega) (fun h2 => ?_) (fun h2 => ?_)
    · rw [if_neg (by omega)] at ih
      refine J.iconst d_V_takeDataFromDraft_52 (v := nI 0) (by decide) ?_
      refine J.iastoreN d_V_takeDataFromDraft_53 rfl (by omega) (by omega) ?_
      refine J.iincN d_V_takeDataFromDraft_54 rfl rfl (by decide) rfl ?_
      refine J.goto d_V_takeDataFromDraft_57 (tgt := 12) (by decide) ?_
      exact ih
    · rw [if_pos (by omega)] at ih
      refine J.aload_n d_V_takeDataFromDraft_41 rfl rfl ?_
      refine J.getfield d_V_takeDataFromDraft_42 fl_V_36 rfl rfl ?_
      refine J.iload_n d_V_takeDataFromDraft_45 rfl rfl ?_
      refine J.iload_n d_V_takeDataFromDraft_46 rfl rfl ?_
      refine J.iaddN d_V_takeDataFromDraft_47 ?_
      refine J.ialoadN d_V_takeDataFromDraft_48 rfl (by omega) (by omega) ?_
      refine J.goto d_V_takeDataFromDraft_49 (tgt := 53) (by decide) ?_
      refine J.iastoreN d_V_takeDataFromDraft_53 rfl (by omega) (by omega) ?_
      refine J.iincN d_V_takeDataFromDraft_54 rfl rfl (by decide) rfl ?_
      refine J.goto d_V_takeDataFromDraft_57 (tgt := 12) (by decide) ?_
      exact ih
theorem con_V_takeDataFromDraft {s : Nat} (hK4 : K ≤ 4) (hdl : dl ≤ 32) (hs : s < 8) : Con l i_V_takeDataFromDraft [.ref 0, .int (nI s)] (CA K Mo dr dl ou ol da eq al us by_ ln pl X) (.inl (none, (CA K Mo dr dl ou ol (td K dr dl s da (4 * K)) eq al us by_ ln pl X))) := by
  refine Con.of ?_
  refine J.iload_n d_V_takeDataFromDraft_0 rfl rfl ?_
  refine J.aload_n d_V_takeDataFromDraft_1 rfl rfl ?_
  refine J.getfield d_V_takeDataFromDraft_2 fl_V_18 rfl rfl ?_
  refine J.getfield d_V_takeDataFromDraft_5 fl_V_184 rfl rfl ?_
  refine J.imulN d_V_takeDataFromDraft_8 ?_
  refine J.istore_n d_V_takeDataFromDraft_9 rfl (by decide) rfl ?_
  refine J.iconst d_V_takeDataFromDraft_10 (v := nI 0) (by decide) ?_
  refine J.istore_n d_V_takeDataFromDraft_11 rfl (by decide) rfl ?_
  have := lp_V_take (l := l) (Mo := Mo) (ol := ol) (dr := dr) (ou := ou) (da := da) (eq := eq) (al := al) (us := us) (by_ := by_) (ln := ln) (pl := pl) (X := X) hK4 hdl hs (4 * K) 0 (by omega)
  rw [td_0] at this
  exact this
/-- the output with the stripe's first n data -/
def co (K : Nat) (da ou : Nat → Nat) (s n : Nat) : Nat → Nat := fun q => if s * (4 * K) ≤ q ∧ q < s * (4 * K) + n ∧ q < 32 then da (q - s * (4 * K)) else ou q
theorem co_0 (K : Nat) (da ou : Nat → Nat) (s : Nat) : co K da ou s 0 = ou := by
  funext q; unfold co; rw [if_neg (by omega)]
theorem co_up {K : Nat} {da ou : Nat → Nat} {s n : Nat} (h : s * (4 * K) + n < 32) : up (co K da ou s n) (s * (4 * K) + n) (da n) = co K da ou s (n + 1) := by
  funext q
  by_cases hq : q = s * (4 * K) + n
  · subst hq
    rw [up_self]; unfold co
    rw [if_pos (by omega), Nat.add_sub_cancel_left]
  · rw [up_ne _ _ hq]; unfold co
    have : (s * (4 * K) ≤ q ∧ q < s * (4 * K) + (n + 1) ∧ q < 32) ↔ (s * (4 * K) ≤ q ∧ q < s * (4 * K) + n ∧ q < 32) := by omega
    simp only [this]
theorem co_end {K : Nat} {da ou : Nat → Nat} {s n m : Nat} (h : 32 ≤ s * (4 * K) + n) (hm : n ≤ m) : co K da ou s n = co K da ou s m := by
  funext q; unfold co
  have : (s * (4 * K) ≤ q ∧ q < s * (4 * K) + n ∧ q < 32) ↔ (s * (4 * K) ≤ q ∧ q < s * (4 * K) + m ∧ q < 32) := by omega
  simp only [this]
theorem lp_V_copy {s : Nat} (hK4 : K ≤ 4) (hs : s < 8) : ∀ (j i : Nat), i + j = 4 * K →
    J l i_V_copyDataToOutput 12 [(0, .ref 0), (1, .int (nI s)), (2, .int (nI (s * (4 * K)))), (3, .int (nI i))] [] (CA K Mo dr dl (co K da ou s i) ol da eq al us by_ ln pl X) 0 0 (.inl (none, (CA K Mo dr dl (co K da ou s (4 * K)) ol da eq al us by_ ln pl X)))
  | 0, i, hi => by
    have h1 : s * (4 * K) ≤ 8 * (4 * 4) := Nat.mul_le_mul (by omega) (by omega)
    refine J.iload_n d_V_copyDataToOutput_12 rfl rfl ?_
    refine J.aload_n d_V_copyDataToOutput_13 rfl rfl ?_
    refine J.getfield d_V_copyDataToOutput_14 fl_V_18 rfl rfl ?_
    refine J.getfield d_V_copyDataToOutput_17 fl_V_184 rfl rfl ?_
    refine J.icmp_geN d_V_copyDataToOutput_20 (tgt := 54) (by decide) (by omega) (by omega) (fun h => ?_) (fun h => ?_)
    · rw [show i = 4 * K by omega]
      exact J.vreturn d_V_copyDataToOutput_54 rfl (by decide) (by decide)
    · omega
  | j + 1, i, hi => by
    have h1 : s * (4 * K) ≤ 8 * (4 * 4) := Nat.mul_le_mul (by omega) (by omega)
    have ih := lp_V_copy hK4 hs j (i + 1) (by omega)
    refine J.iload_n d_V_copyDataToOutput_12 rfl rfl ?_
    refine J.aload_n d_V_copyDataToOutput_13 rfl rfl ?_
    refine J.getfield d_V_copyDataToOutput_14 fl_V_18 rfl rfl ?_
    refine J.getfield d_V_copyDataToOutput_17 fl_V_184 rfl rfl ?_
    refine J.icmp_geN d_V_copyDataToOutput_20 (tgt := 54) (by decide) (by omega) (by omega) (fun h => ?_) (fun h => ?_)
    · omega
    refine J.iload_n d_V_copyDataToOutput_23 rfl rfl ?_
    refine J.iload_n d_V_copyDataToOutput_24 rfl rfl ?_
    refine J.iaddN d_V_copyDataToOutput_25 ?_
    refine J.bipush d_V_copyDataToOutput_26 (v := nI 32) (by decide) ?_
    refine J.icmp_geN d_V_copyDataToOutput_28 (tgt := 54) (by decide) (by omega) (by omega) (fun h2 => ?_) (fun h2 => ?_)
    · rw [co_end (m := 4 * K) h2 (by omega)]
      exact J.vreturn d_V_copyDataToOutput_54 rfl (by decide) (by decide)
    · rw [← co_up h2] at ih
      refine J.aload_n d_V_copyDataToOutput_31 rfl rfl ?_
      refine J.getfield d_V_copyDataToOutput_32 fl_V_44 rfl rfl ?_
      refine J.iload_n d_V_copyDataToOutput_35 rfl rfl ?_
      refine J.iload_n d_V_copyDataToOutput_36 rfl rfl ?_
      refine J.iaddN d_V_copyDataToOutput_37 ?_
      refine J.aload_n d_V_copyDataToOutput_38 rfl rfl ?_
      refine J.getfield d_V_copyDataToOutput_39 fl_V_18 rfl rfl ?_
      refine J.getfield d_V_copyDataToOutput_42 fl_V_187 rfl rfl ?_
      refine J.iload_n d_V_copyDataToOutput_45 rfl rfl ?_
      refine J.ialoadN d_V_copyDataToOutput_46 rfl (by omega) (by omega) ?_
      refine J.iastoreN d_V_copyDataToOutput_47 rfl (by omega) (by omega) ?_
      refine J.iincN d_V_copyDataToOutput_48 rfl rfl (by decide) rfl ?_
      refine J.goto d_V_copyDataToOutput_51 (tgt := 12) (by decide) ?_
      exact ih
theorem con_V_copyDataToOutput {s : Nat} (hK4 : K ≤ 4) (hs : s < 8) : Con l i_V_copyDataToOutput [.ref 0, .int (nI s)] (CA K Mo dr dl ou ol da eq al us by_ ln pl X) (.inl (none, (CA K Mo dr dl (co K da ou s (4 * K)) ol da eq al us by_ ln pl X))) := by
  refine Con.of ?_
  refine J.iload_n d_V_copyDataToOutput_0 rfl rfl ?_
  refine J.aload_n d_V_copyDataToOutput_1 rfl rfl ?_
  refine J.getfield d_V_copyDataToOutput_2 fl_V_18 rfl rfl ?_
  refine J.getfield d_V_copyDataToOutput_5 fl_V_184 rfl rfl ?_
  refine J.imulN d_V_copyDataToOutput_8 ?_
  refine J.istore_n d_V_copyDataToOutput_9 rfl (by decide) rfl ?_
  refine J.iconst d_V_copyDataToOutput_10 (v := nI 0) (by decide) ?_
  refine J.istore_n d_V_copyDataToOutput_11 rfl (by decide) rfl ?_
  have := lp_V_copy (l := l) (Mo := Mo) (dl := dl) (ol := ol) (dr := dr) (ou := ou) (da := da) (eq := eq) (al := al) (us := us) (by_ := by_) (ln := ln) (pl := pl) (X := X) hK4 hs (4 * K) 0 (by omega)
  rw [co_0] at this
  exact this
/-- which of a stripe's shards are lost -/
def lsB (pl : Nat → Nat) (o s : Nat) : Nat → Bool := fun h => decide (pl (56 * o + 7 * s + h) = 0)
/-- the next shard that is kept -/
def nkB (ls : Nat → Bool) (Sh : Nat) : Nat → Nat → Nat
  | 0, i => i
  | n + 1, i => if i < Sh ∧ ls i = true then nkB ls Sh n (i + 1) else i
theorem lp_V_next {o s a : Nat} (hS : K + Mo ≤ 7) (ho : o < 6) (hs : s < 8) (hp : ∀ i, pl i ≤ 80) : ∀ (j i : Nat), K + Mo ≤ i + j → i ≤ K + Mo + 1 →
    J l i_V_nextKept 2 [(0, .ref 0), (1, .int (nI (o * 56 + s * (K + Mo)))), (2, .int (nI a)), (3, .int (nI i))] [] (CA K Mo dr dl ou ol da eq al us by_ ln pl X) 0 0 (.inl (some (.int (nI (nkB (lsB pl o s) (K + Mo) j i))), (CA K Mo dr dl ou ol da eq al us by_ ln pl X)))
  | 0, i, hi, h1 => by
    refine J.iload_n d_V_nextKept_2 rfl rfl ?_
    refine J.aload_n d_V_nextKept_3 rfl rfl ?_
    refine J.getfield d_V_nextKept_4 fl_V_18 rfl rfl ?_
    refine J.getfield d_V_nextKept_7 fl_V_142 rfl rfl ?_
    refine J.icmp_geN d_V_nextKept_10 (tgt := 32) (by decide) (by omega) (by omega) (fun h => ?_) (fun h => ?_)
    · refine J.iload_n d_V_nextKept_32 rfl rfl ?_
      exact J.ireturn d_V_nextKept_33 rfl (by decide) (by decide)
    · omega
  | j + 1, i, hi, h1 => by
    refine J.iload_n d_V_nextKept_2 rfl rfl ?_
    refine J.aload_n d_V_nextKept_3 rfl rfl ?_
    refine J.getfield d_V_nextKept_4 fl_V_18 rfl rfl ?_
    refine J.getfield d_V_nextKept_7 fl_V_142 rfl rfl ?_
    refine J.icmp_geN d_V_nextKept_10 (tgt := 32) (by decide) (by omega) (by omega) (fun h => ?_) (fun h => ?_)
    · rw [show nkB (lsB pl o s) (K + Mo) (j + 1) i = i by unfold nkB; rw [if_neg (by omega)]]
      refine J.iload_n d_V_nextKept_32 rfl rfl ?_
      exact J.ireturn d_V_nextKept_33 rfl (by decide) (by decide)
    · have hix := ix56 hS hs h
      have hc := con_G_placeOf (l := l) (K := K) (Mo := Mo) (dl := dl) (ol := ol) (dr := dr) (ou := ou) (da := da) (eq := eq) (al := al) (fr := frOf us) (tk := tkOf us) (by_ := byOf by_) (ln := ln) (pl := plOf (K + Mo) pl) (X := X) (r := o * 56 + s * (K + Mo)) (h := i) (by omega)
      rw [pl_at pl hS hs h] at hc
      have ht : tr (pl (56 * o + 7 * s + i)) < 2 ^ 30 := by have := pl_lt (Sh := K + Mo) hp (o * 56 + s * (K + Mo) + i); rwa [pl_at pl hS hs h] at this
      refine J.aload_n d_V_nextKept_13 rfl rfl ?_
      refine J.getfield d_V_nextKept_14 fl_V_32 rfl rfl ?_
      refine J.iload_n d_V_nextKept_17 rfl rfl ?_
      refine J.iload_n d_V_nextKept_18 rfl rfl ?_
      refine J.v2i hc k_V_nextKept_G_placeOf d_V_nextKept_19 rfl rfl rfl ?_
      refine J.iconst d_V_nextKept_22 (v := pI 0) (by decide) ?_
      refine J.icmp_neP d_V_nextKept_23 (tgt := 32) (by decide) (by omega) (by omega) (fun q => ?_) (fun q => ?_)
      · rw [show nkB (lsB pl o s) (K + Mo) (j + 1) i = i by unfold nkB; rw [if_neg (fun z => q (tr_eq0.mpr (by simpa [lsB] using z.2)))]]
        refine J.iload_n d_V_nextKept_32 rfl rfl ?_
        exact J.ireturn d_V_nextKept_33 rfl (by decide) (by decide)
      · have e : nkB (lsB pl o s) (K + Mo) (j + 1) i = nkB (lsB pl o s) (K + Mo) j (i + 1) := by
          show (if _ then _ else _) = _
          rw [if_pos ⟨h, by simpa [lsB] using tr_eq0.mp q⟩]
        rw [e]
        refine J.iincN d_V_nextKept_26 rfl rfl (by decide) rfl ?_
        refine J.goto d_V_nextKept_29 (tgt := 2) (by decide) ?_
        exact lp_V_next hS ho hs hp j (i + 1) (by omega) (by omega)
theorem con_V_nextKept {o s a : Nat} (hS : K + Mo ≤ 7) (ho : o < 6) (hs : s < 8) (hp : ∀ i, pl i ≤ 80) (ha : a ≤ K + Mo + 1) : Con l i_V_nextKept [.ref 0, .int (nI (o * 56 + s * (K + Mo))), .int (nI a)] (CA K Mo dr dl ou ol da eq al us by_ ln pl X) (.inl (some (.int (nI (nkB (lsB pl o s) (K + Mo) 7 a))), (CA K Mo dr dl ou ol da eq al us by_ ln pl X))) := by
  refine Con.of ?_
  refine J.iload_n d_V_nextKept_0 rfl rfl ?_
  refine J.istore_n d_V_nextKept_1 rfl (by decide) rfl ?_
  exact lp_V_next hS ho hs hp 7 a (by omega) ha
/-- a line of the data set, its first n bytes -/
def d4 (da : Nat → Nat) (line : Nat) (g : Nat → Nat) : Nat → Nat → Nat
  | 0 => da
  | n + 1 => up (d4 da line g n) (line * 4 + n) (g n)
/-- a stripe's bytes, by shard and number -/
def vb (pl by_ : Nat → Nat) (o s : Nat) : Nat → Nat → Nat := fun h t => by_ (4 * (pl (56 * o + 7 * s + h) - 1) + t)
theorem lp_V_give {p line h : Nat} {r : Value} (hK4 : K ≤ 4) (hl : line < K) (hp : p < 80) : ∀ (j i : Nat), i + j = 4 →
    J l i_V_giveEquation 45 [(0, .ref 0), (1, r), (2, .int (nI line)), (3, .int (nI h)), (4, .int (nI (16 * (p / 10) + p % 10))), (5, .int (nI i))] [] (CA K Mo dr dl ou ol (d4 da line (fun t => by_ (4 * p + t)) i) eq al us by_ ln pl X) 0 0 (.inl (none, (CA K Mo dr dl ou ol (d4 da line (fun t => by_ (4 * p + t)) 4) eq al us by_ ln pl X)))
  | 0, i, hi => by
    refine J.iload d_V_giveEquation_45 rfl ?_
    refine J.iconst d_V_giveEquation_47 (v := nI 4) (by decide) ?_
    refine J.icmp_geN d_V_giveEquation_48 (tgt := 82) (by decide) (by omega) (by omega) (fun h => ?_) (fun h => ?_)
    · rw [show i = 4 by omega]
      exact J.vreturn d_V_giveEquation_82 rfl (by decide) (by decide)
    · omega
  | j + 1, i, hi => by
    have hi4 : i < 4 := by omega
    have ih := lp_V_give (h := h) (r := r) hK4 hl hp j (i + 1) (by omega)
    have hb := con_D_byteAt (l := l) (K := K) (Mo := Mo) (dl := dl) (ol := ol) (dr := dr) (ou := ou) (da := d4 da line (fun t => by_ (4 * p + t)) i) (eq := eq) (al := al) (fr := frOf us) (tk := tkOf us) (by_ := byOf by_) (ln := ln) (pl := plOf (K + Mo) pl) (X := X) (q := 16 * (p / 10) + p % 10) (t := i) (by omega) hi4
    rw [by_at by_ (by omega) hi4, show 10 * (p / 10) + p % 10 = p by omega] at hb
    refine J.iload d_V_giveEquation_45 rfl ?_
    refine J.iconst d_V_giveEquation_47 (v := nI 4) (by decide) ?_
    refine J.icmp_geN d_V_giveEquation_48 (tgt := 82) (by decide) (by omega) (by omega) (fun h => ?_) (fun h => ?_)
    · omega
    refine J.aload_n d_V_giveEquation_51 rfl rfl ?_
    refine J.getfield d_V_giveEquation_52 fl_V_18 rfl rfl ?_
    refine J.getfield d_V_giveEquation_55 fl_V_187 rfl rfl ?_
    refine J.iload_n d_V_giveEquation_58 rfl rfl ?_
    refine J.iconst d_V_giveEquation_59 (v := nI 4) (by decide) ?_
    refine J.imulN d_V_giveEquation_60 ?_
    refine J.iload d_V_giveEquation_61 rfl ?_
    refine J.iaddN d_V_giveEquation_63 ?_
    refine J.aload_n d_V_giveEquation_64 rfl rfl ?_
    refine J.getfield d_V_giveEquation_65 fl_V_25 rfl rfl ?_
    refine J.iload d_V_giveEquation_68 rfl ?_
    refine J.iload d_V_giveEquation_70 rfl ?_
    refine J.v2i hb k_V_giveEquation_D_byteAt d_V_giveEquation_72 rfl rfl rfl ?_
    refine J.iastoreN d_V_giveEquation_75 rfl (by omega) (by omega) ?_
    refine J.iincN d_V_giveEquation_76 rfl rfl (by decide) rfl ?_
    refine J.goto d_V_giveEquation_79 (tgt := 45) (by decide) ?_
    exact ih
theorem con_V_giveEquation {o s line h : Nat} (hK : 0 < K) (hK4 : K ≤ 4) (hM : Mo ≤ 3) (ho : o < 6) (hs : s < 8) (hp : ∀ i, pl i ≤ 80) (hl : line < K) (hh : h < K + Mo) (hk : lsB pl o s h = false) :
    Con l i_V_giveEquation [.ref 0, .int (nI (o * 56 + s * (K + Mo))), .int (nI line), .int (nI h)] (CA K Mo dr dl ou ol da eq al us by_ ln pl X) (.inl (none, (CA K Mo dr dl ou ol (d4 da line (vb pl by_ o s h) 4) (va_cpy (fac K) eq (h * K) (line * K) K) al us by_ ln pl X))) := by
  have hS : K + Mo ≤ 7 := by omega
  have hix := ix56 hS hs hh
  have hc := con_G_placeOf (l := l) (K := K) (Mo := Mo) (dl := dl) (ol := ol) (dr := dr) (ou := ou) (da := da) (eq := eq) (al := al) (fr := frOf us) (tk := tkOf us) (by_ := byOf by_) (ln := ln) (pl := plOf (K + Mo) pl) (X := X) (r := o * 56 + s * (K + Mo)) (h := h) (by omega)
  rw [pl_at pl hS hs hh] at hc
  have h0 : pl (56 * o + 7 * s + h) ≠ 0 := by simpa [lsB] using hk
  obtain ⟨p, ep⟩ : ∃ p, pl (56 * o + 7 * s + h) = p + 1 := ⟨pl (56 * o + 7 * s + h) - 1, by omega⟩
  have hp80 : p < 80 := by have := hp (56 * o + 7 * s + h); omega
  have ev : vb pl by_ o s h = fun t => by_ (4 * p + t) := by funext t; unfold vb; rw [ep, Nat.add_sub_cancel]
  rw [ep, tr_s, pI_succ] at hc
  rw [ev]
  refine Con.of ?_
  refine J.iload_n d_V_giveEquation_0 rfl rfl ?_
  refine J.aload_n d_V_giveEquation_1 rfl rfl ?_
  refine J.getfield d_V_giveEquation_2 fl_V_18 rfl rfl ?_
  refine J.getfield d_V_giveEquation_5 fl_V_142 rfl rfl ?_
  refine J.icmp_geN d_V_giveEquation_8 (tgt := 23) (by decide) (by omega) (by omega) (fun h1 => ?_) (fun h1 => ?_)
  · omega
  refine J.aload_n d_V_giveEquation_11 rfl rfl ?_
  refine J.getfield d_V_giveEquation_12 fl_V_32 rfl rfl ?_
  refine J.iload_n d_V_giveEquation_15 rfl rfl ?_
  refine J.iload_n d_V_giveEquation_16 rfl rfl ?_
  refine J.v2i hc k_V_giveEquation_G_placeOf d_V_giveEquation_17 rfl rfl rfl ?_
  refine J.goto d_V_giveEquation_20 (tgt := 24) (by decide) ?_
  refine J.istore d_V_giveEquation_24 (by decide) rfl ?_
  refine J.iload d_V_giveEquation_26 rfl ?_
  refine J.iconst d_V_giveEquation_28 (v := pI 0) (by decide) ?_
  refine J.icmp_neK d_V_giveEquation_29 (tgt := 33) (by decide) (by omega) ?_
  refine J.aload_n d_V_giveEquation_33 rfl rfl ?_
  refine J.getfield d_V_giveEquation_34 fl_V_18 rfl rfl ?_
  refine J.iload_n d_V_giveEquation_37 rfl rfl ?_
  refine J.iload_n d_V_giveEquation_38 rfl rfl ?_
  refine J.v2v (con_C_setEquation hK hK4 hM hh hl) k_V_giveEquation_C_setEquation d_V_giveEquation_39 rfl rfl rfl ?_
  refine J.iconst d_V_giveEquation_42 (v := nI 0) (by decide) ?_
  refine J.istore d_V_giveEquation_43 (by decide) rfl ?_
  exact lp_V_give hK4 hl hp80 4 0 (by omega)
/-- the shards taken for the lines ahead of n: where to go on, 1 if none is lost, which -/
def selS (ls : Nat → Bool) (K Sh : Nat) : Nat → Nat × Nat × (Nat → Nat)
  | 0 => (K, 1, fun _ => 0)
  | j + 1 => if ls j = true then (nkB ls Sh 7 (selS ls K Sh j).1 + 1, 0, up (selS ls K Sh j).2.2 j (nkB ls Sh 7 (selS ls K Sh j).1)) else ((selS ls K Sh j).1, (selS ls K Sh j).2.1, up (selS ls K Sh j).2.2 j j)
/-- the lines' factors -/
def eqL (K : Nat) (eq : Nat → Nat) (t : Nat → Nat) : Nat → Nat → Nat
  | 0 => eq
  | j + 1 => va_cpy (fac K) (eqL K eq t j) (t j * K) (j * K) K
/-- .. and their bytes -/
def daL (da : Nat → Nat) (v : Nat → Nat → Nat) (t : Nat → Nat) : Nat → Nat → Nat
  | 0 => da
  | j + 1 => d4 (daL da v t j) j (v (t j)) 4
/-- each line's shard is there -/
def selOk (ls : Nat → Bool) (K Sh : Nat) : Prop := ∀ j, j < K → (selS ls K Sh (j + 1)).2.2 j < Sh ∧ ls ((selS ls K Sh (j + 1)).2.2 j) = false ∧ (selS ls K Sh j).1 ≤ Sh ∧ (selS ls K Sh K).2.2 j = (selS ls K Sh (j + 1)).2.2 j
/-- what the class has read -/
def rdC (K Sh : Nat) (ls : Nat → Bool) (v : Nat → Nat → Nat) (eq da : Nat → Nat) : ED :=
  if (selS ls K Sh K).2.1 = 0 then pvs K K (eqL K eq (selS ls K Sh K).2.2 K, daL da v (selS ls K Sh K).2.2 K) else (eqL K eq (selS ls K Sh K).2.2 K, daL da v (selS ls K Sh K).2.2 K)
theorem cpy_lt {f g : Nat → Nat} {a b n : Nat} (hf : ∀ i, f i < 256) (hg : ∀ i, g i < 256) (i : Nat) : va_cpy f g a b n i < 256 := by
  unfold va_cpy; split
  · exact hf _
  · exact hg _
theorem up_lt {f : Nat → Nat} {i v m : Nat} (hf : ∀ i, f i < m) (hv : v < m) (j : Nat) : up f i v j < m := by
  unfold up; split
  · exact hv
  · exact hf j
theorem eqL_lt {K : Nat} {eq t : Nat → Nat} (he : ∀ i, eq i < 256) : ∀ n i, eqL K eq t n i < 256
  | 0, i => he i
  | n + 1, i => cpy_lt (fac_lt K) (eqL_lt he n) i
theorem d4_lt {da : Nat → Nat} {line : Nat} {g : Nat → Nat} (hd : ∀ i, da i < 256) (hg : ∀ t, g t < 256) : ∀ n i, d4 da line g n i < 256
  | 0, i => hd i
  | n + 1, i => up_lt (d4_lt hd hg n) (hg n) i
theorem daL_lt {da : Nat → Nat} {v : Nat → Nat → Nat} {t : Nat → Nat} (hd : ∀ i, da i < 256) (hv : ∀ h t, v h t < 256) : ∀ n i, daL da v t n i < 256
  | 0, i => hd i
  | n + 1, i => d4_lt (daL_lt hd hv n) (hv _) 4 i
theorem lp_V_read {o s : Nat} (hK : 0 < K) (hK4 : K ≤ 4) (hM : Mo ≤ 3) (ho : o < 6) (hs : s < 8) (hp : ∀ i, pl i ≤ 80) (hok : selOk (lsB pl o s) K (K + Mo)) (he : ∀ i, eq i < 256) (hda : ∀ i, da i < 256) (hby : ∀ i, by_ i < 256) : ∀ (j i : Nat), i + j = K →
    J l i_V_readStripe 13 [(0, .ref 0), (1, .int (nI (o * 56 + s * (K + Mo)))), (2, .int (nI (selS (lsB pl o s) K (K + Mo) i).1)), (3, .int (nI (selS (lsB pl o s) K (K + Mo) i).2.1)), (4, .int (nI i))] [] (CA K Mo dr dl ou ol (daL da (vb pl by_ o s) (selS (lsB pl o s) K (K + Mo) K).2.2 i) (eqL K eq (selS (lsB pl o s) K (K + Mo) K).2.2 i) al us by_ ln pl X) 0 0 (.inl (none, (CA K Mo dr dl ou ol ((rdC K (K + Mo) (lsB pl o s) (vb pl by_ o s) eq da).2) ((rdC K (K + Mo) (lsB pl o s) (vb pl by_ o s) eq da).1) al us by_ ln pl X)))
  | 0, i, hi => by
    have hi' : i = K := by omega
    subst hi'
    have hw : (selS (lsB pl o s) i (i + Mo) i).2.1 < 2 ^ 31 := by
      have : ∀ n, (selS (lsB pl o s) i (i + Mo) n).2.1 ≤ 1 := by
        intro n
        induction n with
        | zero => exact Nat.le_refl _
        | succ n ih => unfold selS; split <;> simp_all
      have := this i; omega
    refine J.iload d_V_readStripe_13 rfl ?_
    refine J.aload_n d_V_readStripe_15 rfl rfl ?_
    refine J.getfield d_V_readStripe_16 fl_V_18 rfl rfl ?_
    refine J.getfield d_V_readStripe_19 fl_V_214 rfl rfl ?_
    refine J.icmp_geN d_V_readStripe_22 (tgt := 73) (by decide) (by omega) (by omega) (fun h => ?_) (fun h => ?_)
    · unfold rdC
      refine J.iload_n d_V_readStripe_73 rfl rfl ?_
      refine J.if_neN d_V_readStripe_74 (tgt := 84) (by decide) (by omega) (fun h2 => ?_) (fun h2 => ?_)
      · rw [if_neg h2]
        exact J.vreturn d_V_readStripe_84 rfl (by decide) (by decide)
      · rw [if_pos h2]
        refine J.aload_n d_V_readStripe_77 rfl rfl ?_
        refine J.getfield d_V_readStripe_78 fl_V_18 rfl rfl ?_
        refine J.v0v (con_C_solve hK hK4 (eqL_lt he i) (daL_lt hda (fun h t => hby _) i)) k_V_readStripe_C_solve d_V_readStripe_81 rfl rfl rfl ?_
        exact J.vreturn d_V_readStripe_84 rfl (by decide) (by decide)
    · omega
  | j + 1, i, hi => by
    have hS : K + Mo ≤ 7 := by omega
    have hiK : i < K := by omega
    obtain ⟨o1, o2, o3, o4⟩ := hok i hiK
    have hh : i < K + Mo := by omega
    have hix := ix56 hS hs hh
    have ih := lp_V_read hK hK4 hM ho hs hp hok he hda hby j (i + 1) (by omega)
    have hc := fun (da' eq' : Nat → Nat) => con_G_placeOf (l := l) (K := K) (Mo := Mo) (dl := dl) (ol := ol) (dr := dr) (ou := ou) (da := da') (eq := eq') (al := al) (fr := frOf us) (tk := tkOf us) (by_ := byOf by_) (ln := ln) (pl := plOf (K + Mo) pl) (X := X) (r := o * 56 + s * (K + Mo)) (h := i) (by omega)
    rw [pl_at pl hS hs hh] at hc
    have ht : tr (pl (56 * o + 7 * s + i)) < 2 ^ 30 := by have := pl_lt (Sh := K + Mo) hp (o * 56 + s * (K + Mo) + i); rwa [pl_at pl hS hs hh] at this
    simp only [eqL, daL, o4] at ih
    refine J.iload d_V_readStripe_13 rfl ?_
    refine J.aload_n d_V_readStripe_15 rfl rfl ?_
    refine J.getfield d_V_readStripe_16 fl_V_18 rfl rfl ?_
    refine J.getfield d_V_readStripe_19 fl_V_214 rfl rfl ?_
    refine J.icmp_geN d_V_readStripe_22 (tgt := 73) (by decide) (by omega) (by omega) (fun h => ?_) (fun h => ?_)
    · omega
    refine J.iload d_V_readStripe_25 rfl ?_
    refine J.istore d_V_readStripe_27 (by decide) rfl ?_
    refine J.aload_n d_V_readStripe_29 rfl rfl ?_
    refine J.getfield d_V_readStripe_30 fl_V_32 rfl rfl ?_
    refine J.iload_n d_V_readStripe_33 rfl rfl ?_
    refine J.iload d_V_readStripe_34 rfl ?_
    refine J.v2i (hc _ _) k_V_readStripe_G_placeOf d_V_readStripe_36 rfl rfl rfl ?_
    refine J.iconst d_V_readStripe_39 (v := pI 0) (by decide) ?_
    refine J.icmp_neP d_V_readStripe_40 (tgt := 58) (by decide) (by omega) (by omega) (fun q => ?_) (fun q => ?_)
    · have hl0 : lsB pl o s i = false := by simpa [lsB] using fun z => q (tr_eq0.mpr z)
      have es : selS (lsB pl o s) K (K + Mo) (i + 1) = ((selS (lsB pl o s) K (K + Mo) i).1, (selS (lsB pl o s) K (K + Mo) i).2.1, up (selS (lsB pl o s) K (K + Mo) i).2.2 i i) := by
        show (if _ then _ else _) = _
        rw [if_neg (by rw [hl0]; decide)]
      rw [es] at ih o1 o2
      simp only [up_self] at ih o1 o2
      refine J.aload_n d_V_readStripe_58 rfl rfl ?_
      refine J.iload_n d_V_readStripe_59 rfl rfl ?_
      refine J.iload d_V_readStripe_60 rfl ?_
      refine J.iload d_V_readStripe_62 rfl ?_
      refine J.v3v (con_V_giveEquation hK hK4 hM ho hs hp hiK o1 o2) k_V_readStripe_V_giveEquation d_V_readStripe_64 rfl rfl rfl ?_
      refine J.iincN d_V_readStripe_67 rfl rfl (by decide) rfl ?_
      refine J.goto d_V_readStripe_70 (tgt := 13) (by decide) ?_
      exact J.sub [0, 1, 2, 3, 4] ih
    · have hl1 : lsB pl o s i = true := by simpa [lsB] using tr_eq0.mp q
      have es : selS (lsB pl o s) K (K + Mo) (i + 1) = (nkB (lsB pl o s) (K + Mo) 7 (selS (lsB pl o s) K (K + Mo) i).1 + 1, 0, up (selS (lsB pl o s) K (K + Mo) i).2.2 i (nkB (lsB pl o s) (K + Mo) 7 (selS (lsB pl o s) K (K + Mo) i).1)) := by
        show (if _ then _ else _) = _
        rw [if_pos hl1]
      rw [es] at ih o1 o2
      simp only [up_self] at ih o1 o2
      refine J.iconst d_V_readStripe_43 (v := nI 0) (by decide) ?_
      refine J.istore_n d_V_readStripe_44 rfl (by decide) rfl ?_
      refine J.aload_n d_V_readStripe_45 rfl rfl ?_
      refine J.iload_n d_V_readStripe_46 rfl rfl ?_
      refine J.iload_n d_V_readStripe_47 rfl rfl ?_
      refine J.v2i (con_V_nextKept hS ho hs hp (by omega)) k_V_readStripe_V_nextKept d_V_readStripe_48 rfl rfl rfl ?_
      refine J.istore_n d_V_readStripe_51 rfl (by decide) rfl ?_
      refine J.iload_n d_V_readStripe_52 rfl rfl ?_
      refine J.istore d_V_readStripe_53 (by decide) rfl ?_
      refine J.iincN d_V_readStripe_55 rfl rfl (by decide) rfl ?_
      refine J.aload_n d_V_readStripe_58 rfl rfl ?_
      refine J.iload_n d_V_readStripe_59 rfl rfl ?_
      refine J.iload d_V_readStripe_60 rfl ?_
      refine J.iload d_V_readStripe_62 rfl ?_
      refine J.v3v (con_V_giveEquation hK hK4 hM ho hs hp hiK o1 o2) k_V_readStripe_V_giveEquation d_V_readStripe_64 rfl rfl rfl ?_
      refine J.iincN d_V_readStripe_67 rfl rfl (by decide) rfl ?_
      refine J.goto d_V_readStripe_70 (tgt := 13) (by decide) ?_
      exact J.sub [0, 1, 2, 3, 4] ih
theorem con_V_readStripe {o s : Nat} (hK : 0 < K) (hK4 : K ≤ 4) (hM : Mo ≤ 3) (ho : o < 6) (hs : s < 8) (hp : ∀ i, pl i ≤ 80) (hok : selOk (lsB pl o s) K (K + Mo)) (he : ∀ i, eq i < 256) (hda : ∀ i, da i < 256) (hby : ∀ i, by_ i < 256) :
    Con l i_V_readStripe [.ref 0, .int (nI (o * 56 + s * (K + Mo)))] (CA K Mo dr dl ou ol da eq al us by_ ln pl X) (.inl (none, (CA K Mo dr dl ou ol ((rdC K (K + Mo) (lsB pl o s) (vb pl by_ o s) eq da).2) ((rdC K (K + Mo) (lsB pl o s) (vb pl by_ o s) eq da).1) al us by_ ln pl X))) := by
  refine Con.of ?_
  refine J.aload_n d_V_readStripe_0 rfl rfl ?_
  refine J.getfield d_V_readStripe_1 fl_V_18 rfl rfl ?_
  refine J.getfield d_V_readStripe_4 fl_V_214 rfl rfl ?_
  refine J.istore_n d_V_readStripe_7 rfl (by decide) rfl ?_
  refine J.iconst d_V_readStripe_8 (v := nI 1) (by decide) ?_
  refine J.istore_n d_V_readStripe_9 rfl (by decide) rfl ?_
  refine J.iconst d_V_readStripe_10 (v := nI 0) (by decide) ?_
  refine J.istore d_V_readStripe_11 (by decide) rfl ?_
  exact lp_V_read hK hK4 hM ho hs hp hok he hda hby K 0 (by omega)
end READ
