/-! Checking, repairing, storing, releasing: the class's side -/
section WORK
variable {l : Launch} {K Mo dl ol : Nat} {dr ou da eq al us by_ ln pl : Nat → Nat} {X : List va_E}
theorem anyB_not {p : Nat → Bool} {i : Nat} (hp : p i = false) (h : anyB p i = false) : anyB p (i + 1) = false := by simp [anyB, hp, h]
/-- a byte at p isn't as worked out -/
def wr (K : Nat) (da by_ : Nat → Nat) (p h : Nat) : Nat → Bool := fun t => decide (by_ (4 * p + t) ≠ sb K da h t)
theorem sb_lt {K : Nat} {da : Nat → Nat} (hda : ∀ i, da i < 256) (h t : Nat) : sb K da h t < 256 := by
  unfold sb; split
  · exact hda _
  · exact wk_lt K
theorem lp_V_asW {p h : Nat} (hK : 0 < K) (hK4 : K ≤ 4) (hM : Mo ≤ 3) (hh : h < K + Mo) (hda : ∀ i, da i < 256) (hby : ∀ i, by_ i < 256) (hp : p < 80) : ∀ (j i : Nat), i + j = 4 → anyB (wr K da by_ p h) i = false →
    J l i_V_isAsWorkedOut 2 [(0, .ref 0), (1, .int (nI (16 * (p / 10) + p % 10))), (2, .int (nI h)), (3, .int (nI i))] [] (CA K Mo dr dl ou ol da eq al us by_ ln pl X) 0 0 (.inl (some (.int (nI (b2n (!(anyB (wr K da by_ p h) 4))))), (CA K Mo dr dl ou ol da eq al us by_ ln pl X)))
  | 0, i, hi, ha => by
    refine J.iload_n d_V_isAsWorkedOut_2 rfl rfl ?_
    refine J.iconst d_V_isAsWorkedOut_3 (v := nI 4) (by decide) ?_
    refine J.icmp_geN d_V_isAsWorkedOut_4 (tgt := 36) (by decide) (by omega) (by omega) (fun h => ?_) (fun h => ?_)
    · rw [show i = 4 by omega] at ha
      rw [ha]
      refine J.iconst d_V_isAsWorkedOut_36 (v := nI 1) (by decide) ?_
      first | exact J.zreturn d_V_isAsWorkedOut_37 rfl rfl (by decide) (by decide) | exact J.zreturnN d_V_isAsWorkedOut_37 rfl (by omega) (by decide) (by decide)
    · omega
  | j + 1, i, hi, ha => by
    have hi4 : i < 4 := by omega
    have hb := con_D_byteAt (l := l) (K := K) (Mo := Mo) (dl := dl) (ol := ol) (dr := dr) (ou := ou) (da := da) (eq := eq) (al := al) (fr := frOf us) (tk := tkOf us) (by_ := byOf by_) (ln := ln) (pl := plOf (K + Mo) pl) (X := X) (q := 16 * (p / 10) + p % 10) (t := i) (by omega) hi4
    rw [by_at by_ (by omega) hi4, show 10 * (p / 10) + p % 10 = p by omega] at hb
    have h1 := hby (4 * p + i)
    have h2 := sb_lt (K := K) hda h i
    refine J.iload_n d_V_isAsWorkedOut_2 rfl rfl ?_
    refine J.iconst d_V_isAsWorkedOut_3 (v := nI 4) (by decide) ?_
    refine J.icmp_geN d_V_isAsWorkedOut_4 (tgt := 36) (by decide) (by omega) (by omega) (fun hq => ?_) (fun hq => ?_)
    · omega
    refine J.aload_n d_V_isAsWorkedOut_7 rfl rfl ?_
    refine J.getfield d_V_isAsWorkedOut_8 fl_V_25 rfl rfl ?_
    refine J.iload_n d_V_isAsWorkedOut_11 rfl rfl ?_
    refine J.iload_n d_V_isAsWorkedOut_12 rfl rfl ?_
    refine J.v2i hb k_V_isAsWorkedOut_D_byteAt d_V_isAsWorkedOut_13 rfl rfl rfl ?_
    refine J.aload_n d_V_isAsWorkedOut_16 rfl rfl ?_
    refine J.getfield d_V_isAsWorkedOut_17 fl_V_18 rfl rfl ?_
    refine J.iload_n d_V_isAsWorkedOut_20 rfl rfl ?_
    refine J.iload_n d_V_isAsWorkedOut_21 rfl rfl ?_
    refine J.v2i (con_C_shardByte hK hK4 hM hh hi4 hda) k_V_isAsWorkedOut_C_shardByte d_V_isAsWorkedOut_22 rfl rfl rfl ?_
    refine J.icmp_eqN d_V_isAsWorkedOut_25 (tgt := 30) (by decide) (by omega) (by omega) (fun h3 => ?_) (fun h3 => ?_)
    · refine J.iincN d_V_isAsWorkedOut_30 rfl rfl (by decide) rfl ?_
      refine J.goto d_V_isAsWorkedOut_33 (tgt := 2) (by decide) ?_
      exact lp_V_asW hK hK4 hM hh hda hby hp j (i + 1) (by omega) (anyB_not (by simpa [wr] using h3) ha)
    · rw [anyB_true (p := wr K da by_ p h) (i := i) (by simpa [wr] using h3) 4 hi4]
      refine J.iconst d_V_isAsWorkedOut_28 (v := nI 0) (by decide) ?_
      first | exact J.zreturn d_V_isAsWorkedOut_29 rfl rfl (by decide) (by decide) | exact J.zreturnN d_V_isAsWorkedOut_29 rfl (by omega) (by decide) (by decide)
theorem con_V_isAsWorkedOut {p h : Nat} (hK : 0 < K) (hK4 : K ≤ 4) (hM : Mo ≤ 3) (hh : h < K + Mo) (hda : ∀ i, da i < 256) (hby : ∀ i, by_ i < 256) (hp : p < 80) : Con l i_V_isAsWorkedOut [.ref 0, .int (nI (16 * (p / 10) + p % 10)), .int (nI h)] (CA K Mo dr dl ou ol da eq al us by_ ln pl X) (.inl (some (.int (nI (b2n (!(anyB (wr K da by_ p h) 4))))), (CA K Mo dr dl ou ol da eq al us by_ ln pl X))) := by
  refine Con.of ?_
  refine J.iconst d_V_isAsWorkedOut_0 (v := nI 0) (by decide) ?_
  refine J.istore_n d_V_isAsWorkedOut_1 rfl (by decide) rfl ?_
  exact lp_V_asW hK hK4 hM hh hda hby hp 4 0 (by omega) rfl
/-- a kept shard isn't as worked out -/
def ws1 (K : Nat) (da by_ pl : Nat → Nat) (o s : Nat) : Nat → Bool := fun h => !(lsB pl o s h) && anyB (wr K da by_ (pl (56 * o + 7 * s + h) - 1) h) 4
theorem lp_V_hasW {o s : Nat} (hK : 0 < K) (hK4 : K ≤ 4) (hM : Mo ≤ 3) (ho : o < 6) (hs : s < 8) (hp : ∀ i, pl i ≤ 80) (hda : ∀ i, da i < 256) (hby : ∀ i, by_ i < 256) : ∀ (j i : Nat), i + j = K + Mo → anyB (ws1 K da by_ pl o s) i = false →
    J l i_V_hasWrongShard 7 [(0, .ref 0), (1, .int (nI (o * 56 + s * (K + Mo)))), (2, .int (nI i))] [] (CA K Mo dr dl ou ol da eq al us by_ ln pl X) 0 0 (.inl (some (.int (nI (b2n (anyB (ws1 K da by_ pl o s) (K + Mo))))), (CA K Mo dr dl ou ol da eq al us by_ ln pl X)))
  | 0, i, hi, ha => by
    refine J.iload_n d_V_hasWrongShard_7 rfl rfl ?_
    refine J.aload_n d_V_hasWrongShard_8 rfl rfl ?_
    refine J.getfield d_V_hasWrongShard_9 fl_V_18 rfl rfl ?_
    refine J.getfield d_V_hasWrongShard_12 fl_V_142 rfl rfl ?_
    refine J.icmp_geN d_V_hasWrongShard_15 (tgt := 50) (by decide) (by omega) (by omega) (fun h => ?_) (fun h => ?_)
    · rw [show i = K + Mo by omega] at ha
      rw [ha]
      refine J.iconst d_V_hasWrongShard_50 (v := nI 0) (by decide) ?_
      first | exact J.zreturn d_V_hasWrongShard_51 rfl rfl (by decide) (by decide) | exact J.zreturnN d_V_hasWrongShard_51 rfl (by omega) (by decide) (by decide)
    · omega
  | j + 1, i, hi, ha => by
    have hS : K + Mo ≤ 7 := by omega
    have hh : i < K + Mo := by omega
    have hix := ix56 hS hs hh
    have hc := con_G_placeOf (l := l) (K := K) (Mo := Mo) (dl := dl) (ol := ol) (dr := dr) (ou := ou) (da := da) (eq := eq) (al := al) (fr := frOf us) (tk := tkOf us) (by_ := byOf by_) (ln := ln) (pl := plOf (K + Mo) pl) (X := X) (r := o * 56 + s * (K + Mo)) (h := i) (by omega)
    rw [pl_at pl hS hs hh] at hc
    refine J.iload_n d_V_hasWrongShard_7 rfl rfl ?_
    refine J.aload_n d_V_hasWrongShard_8 rfl rfl ?_
    refine J.getfield d_V_hasWrongShard_9 fl_V_18 rfl rfl ?_
    refine J.getfield d_V_hasWrongShard_12 fl_V_142 rfl rfl ?_
    refine J.icmp_geN d_V_hasWrongShard_15 (tgt := 50) (by decide) (by omega) (by omega) (fun h => ?_) (fun h => ?_)
    · omega
    refine J.aload_n d_V_hasWrongShard_18 rfl rfl ?_
    refine J.getfield d_V_hasWrongShard_19 fl_V_32 rfl rfl ?_
    refine J.iload_n d_V_hasWrongShard_22 rfl rfl ?_
    refine J.iload_n d_V_hasWrongShard_23 rfl rfl ?_
    rcases Nat.eq_zero_or_pos (pl (56 * o + 7 * s + i)) with h0 | h0
    · rw [h0, tr_0] at hc
      refine J.v2i hc k_V_hasWrongShard_G_placeOf d_V_hasWrongShard_24 rfl rfl rfl ?_
      refine J.istore_n d_V_hasWrongShard_27 rfl (by decide) rfl ?_
      refine J.iload_n d_V_hasWrongShard_28 rfl rfl ?_
      refine J.iconst d_V_hasWrongShard_29 (v := pI 0) (by decide) ?_
      refine J.icmp_eqP d_V_hasWrongShard_30 (tgt := 44) (by decide) (by omega) (by omega) (fun _ => ?_) (fun q => absurd rfl q)
      refine J.iincN d_V_hasWrongShard_44 rfl rfl (by decide) rfl ?_
      refine J.goto d_V_hasWrongShard_47 (tgt := 7) (by decide) ?_
      exact J.sub [0, 1, 2] (lp_V_hasW hK hK4 hM ho hs hp hda hby j (i + 1) (by omega) (anyB_not (by simp [ws1, lsB, h0]) ha))
    · obtain ⟨p, ep⟩ : ∃ p, pl (56 * o + 7 * s + i) = p + 1 := ⟨pl (56 * o + 7 * s + i) - 1, by omega⟩
      have hp80 : p < 80 := by have := hp (56 * o + 7 * s + i); omega
      rw [ep, tr_s, pI_succ] at hc
      have ew : ws1 K da by_ pl o s i = anyB (wr K da by_ p i) 4 := by simp [ws1, lsB, ep]
      refine J.v2i hc k_V_hasWrongShard_G_placeOf d_V_hasWrongShard_24 rfl rfl rfl ?_
      refine J.istore_n d_V_hasWrongShard_27 rfl (by decide) rfl ?_
      refine J.iload_n d_V_hasWrongShard_28 rfl rfl ?_
      refine J.iconst d_V_hasWrongShard_29 (v := pI 0) (by decide) ?_
      refine J.icmp_eqK d_V_hasWrongShard_30 (tgt := 44) (by decide) (by omega) ?_
      refine J.aload_n d_V_hasWrongShard_33 rfl rfl ?_
      refine J.iload_n d_V_hasWrongShard_34 rfl rfl ?_
      refine J.iload_n d_V_hasWrongShard_35 rfl rfl ?_
      refine J.v2i (con_V_isAsWorkedOut hK hK4 hM hh hda hby hp80) k_V_hasWrongShard_V_isAsWorkedOut d_V_hasWrongShard_36 rfl rfl rfl ?_
      have hb := b2n_lt (!(anyB (wr K da by_ p i) 4))
      refine J.if_neN d_V_hasWrongShard_39 (tgt := 44) (by decide) (by omega) (fun h3 => ?_) (fun h3 => ?_)
      · refine J.iincN d_V_hasWrongShard_44 rfl rfl (by decide) rfl ?_
        refine J.goto d_V_hasWrongShard_47 (tgt := 7) (by decide) ?_
        refine J.sub [0, 1, 2] (lp_V_hasW hK hK4 hM ho hs hp hda hby j (i + 1) (by omega) (anyB_not ?_ ha))
        rw [ew]; cases hz : anyB (wr K da by_ p i) 4 <;> simp_all [b2n]
      · rw [anyB_true (p := ws1 K da by_ pl o s) (i := i) (by rw [ew]; cases hz : anyB (wr K da by_ p i) 4 <;> simp_all [b2n]) (K + Mo) hh]
        refine J.iconst d_V_hasWrongShard_42 (v := nI 1) (by decide) ?_
        first | exact J.zreturn d_V_hasWrongShard_43 rfl rfl (by decide) (by decide) | exact J.zreturnN d_V_hasWrongShard_43 rfl (by omega) (by decide) (by decide)
theorem rdC_b {K Sh : Nat} {ls : Nat → Bool} {v : Nat → Nat → Nat} {eq da : Nat → Nat} (he : ∀ i, eq i < 256) (hda : ∀ i, da i < 256) (hv : ∀ h t, v h t < 256) : b256 (rdC K Sh ls v eq da) := by
  unfold rdC; split
  · exact pvs_b ⟨eqL_lt he _, daL_lt hda hv _⟩ K
  · exact ⟨eqL_lt he _, daL_lt hda hv _⟩
theorem con_V_hasWrongShard {o s : Nat} (hK : 0 < K) (hK4 : K ≤ 4) (hM : Mo ≤ 3) (ho : o < 6) (hs : s < 8) (hp : ∀ i, pl i ≤ 80) (hok : selOk (lsB pl o s) K (K + Mo)) (he : ∀ i, eq i < 256) (hda : ∀ i, da i < 256) (hby : ∀ i, by_ i < 256) :
    Con l i_V_hasWrongShard [.ref 0, .int (nI (o * 56 + s * (K + Mo)))] (CA K Mo dr dl ou ol da eq al us by_ ln pl X) (.inl (some (.int (nI (b2n (anyB (ws1 K (rdC K (K + Mo) (lsB pl o s) (vb pl by_ o s) eq da).2 by_ pl o s) (K + Mo))))), (CA K Mo dr dl ou ol ((rdC K (K + Mo) (lsB pl o s) (vb pl by_ o s) eq da).2) ((rdC K (K + Mo) (lsB pl o s) (vb pl by_ o s) eq da).1) al us by_ ln pl X))) := by
  refine Con.of ?_
  refine J.aload_n d_V_hasWrongShard_0 rfl rfl ?_
  refine J.iload_n d_V_hasWrongShard_1 rfl rfl ?_
  refine J.v1v (con_V_readStripe hK hK4 hM ho hs hp hok he hda hby) k_V_hasWrongShard_V_readStripe d_V_hasWrongShard_2 rfl rfl rfl ?_
  refine J.iconst d_V_hasWrongShard_5 (v := nI 0) (by decide) ?_
  refine J.istore_n d_V_hasWrongShard_6 rfl (by decide) rfl ?_
  exact lp_V_hasW hK hK4 hM ho hs hp (rdC_b he hda (fun _ _ => hby _)).2 hby (K + Mo) 0 (by omega) rfl
/-- the slots, the bytes, the places -/
abbrev U3 : Type := (Nat → Nat) × (Nat → Nat) × (Nat → Nat)
def layU (K : Nat) (da al : Nat → Nat) (o s Sh h : Nat) (x : U3) : U3 := (up x.1 (gp al x.1 x.2.2 o s Sh - 1) 1, b4 x.2.1 (gp al x.1 x.2.2 o s Sh - 1) (sb K da h) 4, up x.2.2 (56 * o + 7 * s + h) (gp al x.1 x.2.2 o s Sh))
/-- what is always so -/
def okU (x : U3) : Prop := (∀ i, x.1 i < 2) ∧ (∀ i, x.2.1 i < 256) ∧ ∀ i, x.2.2 i ≤ 80
theorem gp_le (al us pl : Nat → Nat) (o s Sh : Nat) (h2 : ∀ i, us i < 2) : gp al us pl o s Sh ≤ 80 := by
  unfold gp; split
  · omega
  · rename_i hne
    have h1 := bdS_le al us pl o s Sh 8
    have h3 := bdS_free al us pl o s Sh 8 hne
    have h4 := ff_spec h2 h3.1
    omega
theorem b4_lt {by_ : Nat → Nat} {p : Nat} {f : Nat → Nat} (hb : ∀ i, by_ i < 256) (hf : ∀ t, f t < 256) : ∀ n i, b4 by_ p f n i < 256
  | 0, i => hb i
  | n + 1, i => up_lt (b4_lt hb hf n) (hf n) i
theorem layU_ok {K : Nat} {da al : Nat → Nat} {o s Sh h : Nat} {x : U3} (hx : okU x) (hda : ∀ i, da i < 256) : okU (layU K da al o s Sh h x) :=
  ⟨up_lt hx.1 (by decide), b4_lt hx.2.1 (sb_lt hda h) 4, fun i => by
    have := up_lt (f := x.2.2) (i := 56 * o + 7 * s + h) (v := gp al x.1 x.2.2 o s Sh) (m := 81) (fun i => by have := hx.2.2 i; omega) (by have := gp_le al x.1 x.2.2 o s Sh hx.1; omega) i
    show up _ _ _ i ≤ 80
    omega⟩
/-- the lost shards ahead of n placed again: how many, and what is there -/
def rpS (K : Nat) (da al : Nat → Nat) (o s Sh : Nat) (x : U3) : Nat → Nat × U3
  | 0 => (0, x)
  | h + 1 => if (rpS K da al o s Sh x h).2.2.2 (56 * o + 7 * s + h) = 0 ∧ gp al (rpS K da al o s Sh x h).2.1 (rpS K da al o s Sh x h).2.2.2 o s Sh ≠ 0 then ((rpS K da al o s Sh x h).1 + 1, layU K da al o s Sh h (rpS K da al o s Sh x h).2) else rpS K da al o s Sh x h
theorem rpS_ok {K : Nat} {da al : Nat → Nat} {o s Sh : Nat} {x : U3} (hx : okU x) (hda : ∀ i, da i < 256) : ∀ n, okU (rpS K da al o s Sh x n).2 ∧ (rpS K da al o s Sh x n).1 ≤ n
  | 0 => ⟨hx, Nat.le_refl _⟩
  | n + 1 => by
    have ih := rpS_ok (K := K) (al := al) (o := o) (s := s) (Sh := Sh) hx hda n
    unfold rpS; split
    · exact ⟨layU_ok ih.1 hda, by have := ih.2; show _ + 1 ≤ _; omega⟩
    · exact ⟨ih.1, by omega⟩
theorem lp_V_rep {o s : Nat} {x : U3} (hx : okU x) (hK : 0 < K) (hK4 : K ≤ 4) (hM : Mo ≤ 3) (ho : o < 6) (hs : s < 8) (ha : ∀ i, al i < 2) (hda : ∀ i, da i < 256) : ∀ (j i : Nat), i + j = K + Mo →
    J l i_V_repairStripe 30 [(0, .ref 0), (1, .int (nI (o * 56 + s * (K + Mo)))), (2, .int (nI (rpS K da al o s (K + Mo) x i).1)), (3, .int (nI i))] [] (CA K Mo dr dl ou ol da eq al ((rpS K da al o s (K + Mo) x i).2.1) ((rpS K da al o s (K + Mo) x i).2.2.1) ln ((rpS K da al o s (K + Mo) x i).2.2.2) X) 0 0 (.inl (some (.int (nI (rpS K da al o s (K + Mo) x (K + Mo)).1)), (CA K Mo dr dl ou ol da eq al ((rpS K da al o s (K + Mo) x (K + Mo)).2.1) ((rpS K da al o s (K + Mo) x (K + Mo)).2.2.1) ln ((rpS K da al o s (K + Mo) x (K + Mo)).2.2.2) X)))
  | 0, i, hi => by
    refine J.iload_n d_V_repairStripe_30 rfl rfl ?_
    refine J.aload_n d_V_repairStripe_31 rfl rfl ?_
    refine J.getfield d_V_repairStripe_32 fl_V_18 rfl rfl ?_
    refine J.getfield d_V_repairStripe_35 fl_V_142 rfl rfl ?_
    refine J.icmp_geN d_V_repairStripe_38 (tgt := 72) (by decide) (by omega) (by omega) (fun h => ?_) (fun h => ?_)
    · rw [show i = K + Mo by omega]
      refine J.iload_n d_V_repairStripe_72 rfl rfl ?_
      exact J.ireturn d_V_repairStripe_73 rfl (by decide) (by decide)
    · omega
  | j + 1, i, hi => by
    have hS : K + Mo ≤ 7 := by omega
    have hh : i < K + Mo := by omega
    have hix := ix56 hS hs hh
    have ih := lp_V_rep hx hK hK4 hM ho hs ha hda j (i + 1) (by omega)
    have hok := (rpS_ok (K := K) (al := al) (o := o) (s := s) (Sh := K + Mo) hx hda i).1
    have hc := con_G_placeOf (l := l) (K := K) (Mo := Mo) (dl := dl) (ol := ol) (dr := dr) (ou := ou) (da := da) (eq := eq) (al := al) (fr := frOf (rpS K da al o s (K + Mo) x i).2.1) (tk := tkOf (rpS K da al o s (K + Mo) x i).2.1) (by_ := byOf (rpS K da al o s (K + Mo) x i).2.2.1) (ln := ln) (pl := plOf (K + Mo) (rpS K da al o s (K + Mo) x i).2.2.2) (X := X) (r := o * 56 + s * (K + Mo)) (h := i) (by omega)
    rw [pl_at _ hS hs hh] at hc
    have ht : tr ((rpS K da al o s (K + Mo) x i).2.2.2 (56 * o + 7 * s + i)) < 2 ^ 30 := by have := pl_lt (Sh := K + Mo) hok.2.2 (o * 56 + s * (K + Mo) + i); rwa [pl_at _ hS hs hh] at this
    have no : ¬ ((rpS K da al o s (K + Mo) x i).2.2.2 (56 * o + 7 * s + i) = 0 ∧ gp al (rpS K da al o s (K + Mo) x i).2.1 (rpS K da al o s (K + Mo) x i).2.2.2 o s (K + Mo) ≠ 0) → rpS K da al o s (K + Mo) x (i + 1) = rpS K da al o s (K + Mo) x i := fun hn => by
      show (if _ then _ else _) = _
      rw [if_neg hn]
    refine J.iload_n d_V_repairStripe_30 rfl rfl ?_
    refine J.aload_n d_V_repairStripe_31 rfl rfl ?_
    refine J.getfield d_V_repairStripe_32 fl_V_18 rfl rfl ?_
    refine J.getfield d_V_repairStripe_35 fl_V_142 rfl rfl ?_
    refine J.icmp_geN d_V_repairStripe_38 (tgt := 72) (by decide) (by omega) (by omega) (fun h => ?_) (fun h => ?_)
    · omega
    refine J.aload_n d_V_repairStripe_41 rfl rfl ?_
    refine J.getfield d_V_repairStripe_42 fl_V_32 rfl rfl ?_
    refine J.iload_n d_V_repairStripe_45 rfl rfl ?_
    refine J.iload_n d_V_repairStripe_46 rfl rfl ?_
    refine J.v2i hc k_V_repairStripe_G_placeOf d_V_repairStripe_47 rfl rfl rfl ?_
    refine J.iconst d_V_repairStripe_50 (v := pI 0) (by decide) ?_
    refine J.icmp_neP d_V_repairStripe_51 (tgt := 66) (by decide) (by omega) (by omega) (fun q => ?_) (fun q => ?_)
    · rw [no (fun z => q (tr_eq0.mpr z.1))] at ih
      refine J.iincN d_V_repairStripe_66 rfl rfl (by decide) rfl ?_
      refine J.goto d_V_repairStripe_69 (tgt := 30) (by decide) ?_
      exact ih
    refine J.aload_n d_V_repairStripe_54 rfl rfl ?_
    refine J.iload_n d_V_repairStripe_55 rfl rfl ?_
    refine J.iload_n d_V_repairStripe_56 rfl rfl ?_
    by_cases hg : gp al (rpS K da al o s (K + Mo) x i).2.1 (rpS K da al o s (K + Mo) x i).2.2.2 o s (K + Mo) = 0
    · rw [no (fun z => z.2 hg)] at ih
      refine J.v2i (con_V_placeShard0 hS ho hs hok.2.2 hok.1 ha hg) k_V_repairStripe_V_placeShard d_V_repairStripe_57 rfl rfl rfl ?_
      refine J.if_eqN d_V_repairStripe_60 (tgt := 66) (by decide) (by omega) (fun h3 => ?_) (fun h3 => ?_)
      · refine J.iincN d_V_repairStripe_66 rfl rfl (by decide) rfl ?_
        refine J.goto d_V_repairStripe_69 (tgt := 30) (by decide) ?_
        exact ih
      · exact absurd rfl h3
    · have e : rpS K da al o s (K + Mo) x (i + 1) = ((rpS K da al o s (K + Mo) x i).1 + 1, layU K da al o s (K + Mo) i (rpS K da al o s (K + Mo) x i).2) := by
        show (if _ then _ else _) = _
        rw [if_pos ⟨tr_eq0.mp q, hg⟩]
      rw [e] at ih
      refine J.v2i (con_V_placeShard hK hK4 hM ho hs hh hda hok.2.2 hok.1 ha hg) k_V_repairStripe_V_placeShard d_V_repairStripe_57 rfl rfl rfl ?_
      refine J.if_eqN d_V_repairStripe_60 (tgt := 66) (by decide) (by omega) (fun h3 => ?_) (fun h3 => ?_)
      · exact absurd h3 (by decide)
      · refine J.iincN d_V_repairStripe_63 rfl rfl (by decide) rfl ?_
        refine J.iincN d_V_repairStripe_66 rfl rfl (by decide) rfl ?_
        refine J.goto d_V_repairStripe_69 (tgt := 30) (by decide) ?_
        exact ih
theorem con_V_repairStripe0 {o s : Nat} (hK : 0 < K) (hS : K + Mo ≤ 7) (ho : o < 6) (hs : s < 8) (hp : ∀ i, pl i ≤ 80) (hn : Mo < nl pl o s (K + Mo) ∨ nl pl o s (K + Mo) = 0) : Con l i_V_repairStripe [.ref 0, .int (nI (o * 56 + s * (K + Mo)))] (CA K Mo dr dl ou ol da eq al us by_ ln pl X) (.inl (some (.int (nI 0)), (CA K Mo dr dl ou ol da eq al us by_ ln pl X))) := by
  have hr : o * 56 + s * (K + Mo) + (K + Mo) ≤ 336 := by
    have h1 : (s + 1) * (K + Mo) ≤ 8 * 7 := Nat.mul_le_mul (by omega) hS
    rw [Nat.succ_mul] at h1; omega
  have hc := con_G_countLost (l := l) (K := K) (Mo := Mo) (dl := dl) (ol := ol) (dr := dr) (ou := ou) (da := da) (eq := eq) (al := al) (fr := frOf us) (tk := tkOf us) (by_ := byOf by_) (ln := ln) (X := X) hS hr (pl_lt (Sh := K + Mo) hp)
  rw [nl_cls hS hs] at hc
  have hgo := con_V_isGone (l := l) (dl := dl) (ol := ol) (dr := dr) (ou := ou) (da := da) (eq := eq) (al := al) (us := us) (by_ := by_) (ln := ln) (X := X) hS ho hs hp
  refine Con.of ?_
  refine J.aload_n d_V_repairStripe_0 rfl rfl ?_
  refine J.iload_n d_V_repairStripe_1 rfl rfl ?_
  refine J.v1i hgo k_V_repairStripe_V_isGone d_V_repairStripe_2 rfl rfl rfl ?_
  have hif : (if Mo < nl pl o s (K + Mo) then 1 else 0) < 2 := by split <;> decide
  refine J.if_neN d_V_repairStripe_5 (tgt := 19) (by decide) (by omega) (fun h => ?_) (fun h => ?_)
  · refine J.iconst d_V_repairStripe_19 (v := nI 0) (by decide) ?_
    exact J.ireturn d_V_repairStripe_20 rfl (by decide) (by decide)
  · have h0 : nl pl o s (K + Mo) = 0 := by
      rcases hn with hn | hn
      · rw [if_pos hn] at h; exact absurd h (by decide)
      · exact hn
    rw [h0] at hc
    refine J.aload_n d_V_repairStripe_8 rfl rfl ?_
    refine J.getfield d_V_repairStripe_9 fl_V_32 rfl rfl ?_
    refine J.iload_n d_V_repairStripe_12 rfl rfl ?_
    refine J.v1i hc k_V_repairStripe_G_countLost d_V_repairStripe_13 rfl rfl rfl ?_
    refine J.if_neN d_V_repairStripe_16 (tgt := 21) (by decide) (by omega) (fun h2 => ?_) (fun h2 => ?_)
    · exact absurd rfl h2
    · refine J.iconst d_V_repairStripe_19 (v := nI 0) (by decide) ?_
      exact J.ireturn d_V_repairStripe_20 rfl (by decide) (by decide)
theorem con_V_repairStripe {o s : Nat} (hK : 0 < K) (hK4 : K ≤ 4) (hM : Mo ≤ 3) (ho : o < 6) (hs : s < 8) (hx : okU (us, by_, pl)) (ha : ∀ i, al i < 2) (hok : selOk (lsB pl o s) K (K + Mo)) (he : ∀ i, eq i < 256) (hda : ∀ i, da i < 256) (h1 : nl pl o s (K + Mo) ≤ Mo) (h2 : nl pl o s (K + Mo) ≠ 0) :
    Con l i_V_repairStripe [.ref 0, .int (nI (o * 56 + s * (K + Mo)))] (CA K Mo dr dl ou ol da eq al us by_ ln pl X) (.inl (some (.int (nI (rpS K (rdC K (K + Mo) (lsB pl o s) (vb pl by_ o s) eq da).2 al o s (K + Mo) (us, by_, pl) (K + Mo)).1)), (CA K Mo dr dl ou ol ((rdC K (K + Mo) (lsB pl o s) (vb pl by_ o s) eq da).2) ((rdC K (K + Mo) (lsB pl o s) (vb pl by_ o s) eq da).1) al ((rpS K (rdC K (K + Mo) (lsB pl o s) (vb pl by_ o s) eq da).2 al o s (K + Mo) (us, by_, pl) (K + Mo)).2.1) ((rpS K (rdC K (K + Mo) (lsB pl o s) (vb pl by_ o s) eq da).2 al o s (K + Mo) (us, by_, pl) (K + Mo)).2.2.1) ln ((rpS K (rdC K (K + Mo) (lsB pl o s) (vb pl by_ o s) eq da).2 al o s (K + Mo) (us, by_, pl) (K + Mo)).2.2.2) X))) := by
  have hS : K + Mo ≤ 7 := by omega
  have hp : ∀ i, pl i ≤ 80 := hx.2.2
  have hby : ∀ i, by_ i < 256 := hx.2.1
  have hr : o * 56 + s * (K + Mo) + (K + Mo) ≤ 336 := by
    have h1 : (s + 1) * (K + Mo) ≤ 8 * 7 := Nat.mul_le_mul (by omega) hS
    rw [Nat.succ_mul] at h1; omega
  have hc := con_G_countLost (l := l) (K := K) (Mo := Mo) (dl := dl) (ol := ol) (dr := dr) (ou := ou) (da := da) (eq := eq) (al := al) (fr := frOf us) (tk := tkOf us) (by_ := byOf by_) (ln := ln) (X := X) hS hr (pl_lt (Sh := K + Mo) hp)
  rw [nl_cls hS hs] at hc
  have hgo := con_V_isGone (l := l) (dl := dl) (ol := ol) (dr := dr) (ou := ou) (da := da) (eq := eq) (al := al) (us := us) (by_ := by_) (ln := ln) (X := X) hS ho hs hp
  rw [if_neg (by omega)] at hgo
  refine Con.of ?_
  refine J.aload_n d_V_repairStripe_0 rfl rfl ?_
  refine J.iload_n d_V_repairStripe_1 rfl rfl ?_
  refine J.v1i hgo k_V_repairStripe_V_isGone d_V_repairStripe_2 rfl rfl rfl ?_
  refine J.if_neN d_V_repairStripe_5 (tgt := 19) (by decide) (by omega) (fun h => ?_) (fun h => ?_)
  · exact absurd rfl h
  refine J.aload_n d_V_repairStripe_8 rfl rfl ?_
  refine J.getfield d_V_repairStripe_9 fl_V_32 rfl rfl ?_
  refine J.iload_n d_V_repairStripe_12 rfl rfl ?_
  refine J.v1i hc k_V_repairStripe_G_countLost d_V_repairStripe_13 rfl rfl rfl ?_
  refine J.if_neN d_V_repairStripe_16 (tgt := 21) (by decide) (by omega) (fun h3 => ?_) (fun h3 => ?_)
  · refine J.aload_n d_V_repairStripe_21 rfl rfl ?_
    refine J.iload_n d_V_repairStripe_22 rfl rfl ?_
    refine J.v1v (con_V_readStripe hK hK4 hM ho hs hp hok he hda hby) k_V_repairStripe_V_readStripe d_V_repairStripe_23 rfl rfl rfl ?_
    refine J.iconst d_V_repairStripe_26 (v := nI 0) (by decide) ?_
    refine J.istore_n d_V_repairStripe_27 rfl (by decide) rfl ?_
    refine J.iconst d_V_repairStripe_28 (v := nI 0) (by decide) ?_
    refine J.istore_n d_V_repairStripe_29 rfl (by decide) rfl ?_
    exact lp_V_rep hx hK hK4 hM ho hs ha (rdC_b he hda (fun _ _ => hby _)).2 (K + Mo) 0 (by omega)
  · exact absurd h3 h2
end WORK
