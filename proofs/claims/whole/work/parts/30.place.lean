/-! Where a shard goes: the class's side -/
section PLACE
variable {l : Launch} {K Mo dl ol : Nat} {dr ou da eq al us by_ ln pl : Nat → Nat} {X : List va_E}
theorem nI_ne_m1 {a : Nat} (ha : a < 2 ^ 30 - 1) : ¬ nI a = pI 0 := fun h => by
  rw [← pI_succ, pI_eq (by omega) (by omega)] at h; omega
theorem J.icmp_neK {I : MI} {pc : Nat} {lv : List (Nat × Value)} {M : List va_E} {k n : Nat} {out : Out} {a : Nat} {off : Int} {tgt : Nat} {r : List Value} (hd : decode I.cc pc = .ok (.if_icmp .ne off, 3)) (ht : (pc : Int) + off = (tgt : Int)) (ha : a < 2 ^ 30 - 1) (kt : J l I tgt lv r M k n out) : J l I pc lv (.int (pI 0) :: .int (nI a) :: r) M k n out :=
  J.icmp_ne hd ht (fun _ => kt) (fun h => absurd h (nI_ne_m1 ha))
theorem J.icmp_eqK {I : MI} {pc : Nat} {lv : List (Nat × Value)} {M : List va_E} {k n : Nat} {out : Out} {a : Nat} {off : Int} {tgt : Nat} {r : List Value} (hd : decode I.cc pc = .ok (.if_icmp .eq off, 3)) (ht : (pc : Int) + off = (tgt : Int)) (ha : a < 2 ^ 30 - 1) (kf : J l I (pc + 3) lv r M k n out) : J l I pc lv (.int (pI 0) :: .int (nI a) :: r) M k n out :=
  J.icmp_eq hd ht (fun h => absurd h (nI_ne_m1 ha)) (fun _ => kf)
theorem anyB_congr {p q : Nat → Bool} : ∀ n, (∀ i, i < n → p i = q i) → anyB p n = anyB q n
  | 0, _ => rfl
  | n + 1, h => by
    unfold anyB
    rw [anyB_congr n (fun i hi => h i (by omega)), h n (by omega)]
/-- a stripe has a shard on the disk -/
def onD (pl : Nat → Nat) (o s Sh d : Nat) : Bool := anyB (fun h => od10 d (pl (56 * o + 7 * s + h))) Sh
theorem onD_cls {Sh : Nat} {pl : Nat → Nat} {o s d : Nat} (hS : Sh ≤ 7) (hs : s < 8) : anyB (fun h => od d (plOf Sh pl (o * 56 + s * Sh + h))) Sh = onD pl o s Sh d :=
  anyB_congr Sh (fun h hh => by rw [pl_at pl hS hs hh, od_tr])
/-- the roomiest disk that the stripe isn't on (its number plus one, 0: none), and its room -/
def bdS (al us pl : Nat → Nat) (o s Sh : Nat) : Nat → Nat × Nat
  | 0 => (0, 0)
  | d + 1 => if al d ≠ 0 ∧ (bdS al us pl o s Sh d).2 < 10 - ud us d ∧ onD pl o s Sh d = false then (d + 1, 10 - ud us d) else bdS al us pl o s Sh d
theorem bdS_le (al us pl : Nat → Nat) (o s Sh : Nat) : ∀ d, (bdS al us pl o s Sh d).1 ≤ d ∧ (bdS al us pl o s Sh d).2 ≤ 10
  | 0 => ⟨Nat.le_refl _, Nat.zero_le _⟩
  | d + 1 => by
    have := bdS_le al us pl o s Sh d
    unfold bdS; split
    · exact ⟨Nat.le_refl _, by omega⟩
    · exact ⟨by omega, this.2⟩
theorem bdS_free (al us pl : Nat → Nat) (o s Sh : Nat) : ∀ d, (bdS al us pl o s Sh d).1 ≠ 0 → ud us ((bdS al us pl o s Sh d).1 - 1) < 10 ∧ al ((bdS al us pl o s Sh d).1 - 1) ≠ 0
  | 0, h => absurd rfl h
  | d + 1, h => by
    unfold bdS at h ⊢; split
    · rename_i hc; simp only [Nat.add_sub_cancel]; exact ⟨by omega, hc.1⟩
    · rename_i hc; rw [if_neg hc] at h; exact bdS_free al us pl o s Sh d h
theorem con_V_isGone {o s : Nat} (hS : K + Mo ≤ 7) (ho : o < 6) (hs : s < 8) (hp : ∀ i, pl i ≤ 80) : Con l i_V_isGone [.ref 0, .int (nI (o * 56 + s * (K + Mo)))] (CA K Mo dr dl ou ol da eq al us by_ ln pl X) (.inl (some (.int (nI (if Mo < nl pl o s (K + Mo) then 1 else 0))), (CA K Mo dr dl ou ol da eq al us by_ ln pl X))) := by
  have hr : o * 56 + s * (K + Mo) + (K + Mo) ≤ 336 := by
    have h1 : (s + 1) * (K + Mo) ≤ 8 * 7 := Nat.mul_le_mul (by omega) hS
    rw [Nat.succ_mul] at h1; omega
  have hc := con_G_countLost (l := l) (K := K) (Mo := Mo) (dl := dl) (ol := ol) (dr := dr) (ou := ou) (da := da) (eq := eq) (al := al) (fr := frOf us) (tk := tkOf us) (by_ := byOf by_) (ln := ln) (X := X) hS hr (pl_lt (Sh := K + Mo) hp)
  rw [nl_cls hS hs] at hc
  have hn : nl pl o s (K + Mo) ≤ (K + Mo) * 1 := cs_le (fun i => by unfold z1; split <;> omega) _
  refine Con.of ?_
  refine J.aload_n d_V_isGone_0 rfl rfl ?_
  refine J.getfield d_V_isGone_1 fl_V_32 rfl rfl ?_
  refine J.iload_n d_V_isGone_4 rfl rfl ?_
  refine J.v1i hc k_V_isGone_G_countLost d_V_isGone_5 rfl rfl rfl ?_
  refine J.aload_n d_V_isGone_8 rfl rfl ?_
  refine J.getfield d_V_isGone_9 fl_V_18 rfl rfl ?_
  refine J.getfield d_V_isGone_12 fl_V_142 rfl rfl ?_
  refine J.aload_n d_V_isGone_15 rfl rfl ?_
  refine J.getfield d_V_isGone_16 fl_V_18 rfl rfl ?_
  refine J.getfield d_V_isGone_19 fl_V_214 rfl rfl ?_
  refine J.isubN d_V_isGone_22 (by omega) ?_
  rw [show K + Mo - K = Mo by omega]
  refine J.icmp_leN d_V_isGone_23 (tgt := 30) (by decide) (by omega) (by omega) (fun h => ?_) (fun h => ?_)
  · rw [if_neg (by omega)]
    refine J.iconst d_V_isGone_30 (v := nI 0) (by decide) ?_
    first | exact J.zreturn d_V_isGone_31 rfl rfl (by decide) (by decide) | exact J.zreturnN d_V_isGone_31 rfl (by omega) (by decide) (by decide)
  · rw [if_pos (by omega)]
    refine J.iconst d_V_isGone_26 (v := nI 1) (by decide) ?_
    refine J.goto d_V_isGone_27 (tgt := 31) (by decide) ?_
    first | exact J.zreturn d_V_isGone_31 rfl rfl (by decide) (by decide) | exact J.zreturnN d_V_isGone_31 rfl (by omega) (by decide) (by decide)
theorem lp_V_room {o s : Nat} (hS : K + Mo ≤ 7) (ho : o < 6) (hs : s < 8) (hp : ∀ i, pl i ≤ 80) (h2 : ∀ i, us i < 2) (ha : ∀ i, al i < 2) : ∀ (j i : Nat), i + j = 8 →
    J l i_V_roomiestDiskFor 7 [(0, .ref 0), (1, .int (nI (o * 56 + s * (K + Mo)))), (2, .int (pI (bdS al us pl o s (K + Mo) i).1)), (3, .int (nI (bdS al us pl o s (K + Mo) i).2)), (4, .int (nI i))] [] (CA K Mo dr dl ou ol da eq al us by_ ln pl X) 0 0 (.inl (some (.int (pI (bdS al us pl o s (K + Mo) 8).1)), (CA K Mo dr dl ou ol da eq al us by_ ln pl X)))
  | 0, i, hi => by
    refine J.iload d_V_roomiestDiskFor_7 rfl ?_
    refine J.bipush d_V_roomiestDiskFor_9 (v := nI 8) (by decide) ?_
    refine J.icmp_geN d_V_roomiestDiskFor_11 (tgt := 68) (by decide) (by omega) (by omega) (fun h => ?_) (fun h => ?_)
    · rw [show i = 8 by omega]
      refine J.iload_n d_V_roomiestDiskFor_68 rfl rfl ?_
      exact J.ireturn d_V_roomiestDiskFor_69 rfl (by decide) (by decide)
    · omega
  | j + 1, i, hi => by
    have hr : o * 56 + s * (K + Mo) + (K + Mo) ≤ 336 := by
      have h1 : (s + 1) * (K + Mo) ≤ 8 * 7 := Nat.mul_le_mul (by omega) hS
      rw [Nat.succ_mul] at h1; omega
    have ih := lp_V_room hS ho hs hp h2 ha j (i + 1) (by omega)
    have hi8 : i < 8 := by omega
    have hai := ha i
    have hle := bdS_le al us pl o s (K + Mo) i
    have hc := con_G_isOnDisk (l := l) (K := K) (Mo := Mo) (dl := dl) (ol := ol) (dr := dr) (ou := ou) (da := da) (eq := eq) (al := al) (fr := frOf us) (tk := tkOf us) (by_ := byOf by_) (ln := ln) (X := X) hi8 hS hr (pl_lt (Sh := K + Mo) hp)
    rw [onD_cls hS hs] at hc
    have no : ¬ (al i ≠ 0 ∧ (bdS al us pl o s (K + Mo) i).2 < 10 - ud us i ∧ onD pl o s (K + Mo) i = false) → bdS al us pl o s (K + Mo) (i + 1) = bdS al us pl o s (K + Mo) i := fun hn => by
      show (if _ then _ else _) = _
      rw [if_neg hn]
    refine J.iload d_V_roomiestDiskFor_7 rfl ?_
    refine J.bipush d_V_roomiestDiskFor_9 (v := nI 8) (by decide) ?_
    refine J.icmp_geN d_V_roomiestDiskFor_11 (tgt := 68) (by decide) (by omega) (by omega) (fun h => ?_) (fun h => ?_)
    · omega
    refine J.aload_n d_V_roomiestDiskFor_14 rfl rfl ?_
    refine J.getfield d_V_roomiestDiskFor_15 fl_V_25 rfl rfl ?_
    refine J.iload d_V_roomiestDiskFor_18 rfl ?_
    refine J.v1i (con_D_freeSlotsOf hi8) k_V_roomiestDiskFor_D_freeSlotsOf d_V_roomiestDiskFor_20 rfl rfl rfl ?_
    rw [fr_at us hi8]
    refine J.istore d_V_roomiestDiskFor_23 (by decide) rfl ?_
    refine J.aload_n d_V_roomiestDiskFor_25 rfl rfl ?_
    refine J.getfield d_V_roomiestDiskFor_26 fl_V_25 rfl rfl ?_
    refine J.iload d_V_roomiestDiskFor_29 rfl ?_
    refine J.v1i (con_D_isAlive hi8 hai) k_V_roomiestDiskFor_D_isAlive d_V_roomiestDiskFor_31 rfl rfl rfl ?_
    refine J.if_eqN d_V_roomiestDiskFor_34 (tgt := 62) (by decide) (by omega) (fun h3 => ?_) (fun h3 => ?_)
    · rw [no (fun z => z.1 h3)] at ih
      refine J.iincN d_V_roomiestDiskFor_62 rfl rfl (by decide) rfl ?_
      refine J.goto d_V_roomiestDiskFor_65 (tgt := 7) (by decide) ?_
      exact J.sub [0, 1, 2, 3, 4] ih
    refine J.iload d_V_roomiestDiskFor_37 rfl ?_
    refine J.iload_n d_V_roomiestDiskFor_39 rfl rfl ?_
    refine J.icmp_leN d_V_roomiestDiskFor_40 (tgt := 62) (by decide) (by omega) (by omega) (fun h4 => ?_) (fun h4 => ?_)
    · rw [no (fun z => by omega)] at ih
      refine J.iincN d_V_roomiestDiskFor_62 rfl rfl (by decide) rfl ?_
      refine J.goto d_V_roomiestDiskFor_65 (tgt := 7) (by decide) ?_
      exact J.sub [0, 1, 2, 3, 4] ih
    refine J.aload_n d_V_roomiestDiskFor_43 rfl rfl ?_
    refine J.getfield d_V_roomiestDiskFor_44 fl_V_32 rfl rfl ?_
    refine J.iload_n d_V_roomiestDiskFor_47 rfl rfl ?_
    refine J.iload d_V_roomiestDiskFor_48 rfl ?_
    refine J.v2i hc k_V_roomiestDiskFor_G_isOnDisk d_V_roomiestDiskFor_50 rfl rfl rfl ?_
    have hb := b2n_lt (onD pl o s (K + Mo) i)
    refine J.if_neN d_V_roomiestDiskFor_53 (tgt := 62) (by decide) (by omega) (fun h5 => ?_) (fun h5 => ?_)
    · rw [no (fun z => by rw [z.2.2] at h5; exact h5 rfl)] at ih
      refine J.iincN d_V_roomiestDiskFor_62 rfl rfl (by decide) rfl ?_
      refine J.goto d_V_roomiestDiskFor_65 (tgt := 7) (by decide) ?_
      exact J.sub [0, 1, 2, 3, 4] ih
    · have hf : onD pl o s (K + Mo) i = false := by cases hz : onD pl o s (K + Mo) i <;> simp_all [b2n]
      have e : bdS al us pl o s (K + Mo) (i + 1) = (i + 1, 10 - ud us i) := by
        show (if _ then _ else _) = _
        rw [if_pos ⟨h3, h4, hf⟩]
      rw [e] at ih
      dsimp only at ih
      rw [pI_succ] at ih
      refine J.iload d_V_roomiestDiskFor_56 rfl ?_
      refine J.istore_n d_V_roomiestDiskFor_58 rfl (by decide) rfl ?_
      refine J.iload d_V_roomiestDiskFor_59 rfl ?_
      refine J.istore_n d_V_roomiestDiskFor_61 rfl (by decide) rfl ?_
      refine J.iincN d_V_roomiestDiskFor_62 rfl rfl (by decide) rfl ?_
      refine J.goto d_V_roomiestDiskFor_65 (tgt := 7) (by decide) ?_
      exact J.sub [0, 1, 2, 3, 4] ih
theorem con_V_room4 {o s : Nat} (hS : K + Mo ≤ 7) (ho : o < 6) (hs : s < 8) (hp : ∀ i, pl i ≤ 80) (h2 : ∀ i, us i < 2) (ha : ∀ i, al i < 2) : Con l i_V_roomiestDiskFor [.ref 0, .int (nI (o * 56 + s * (K + Mo)))] (CA K Mo dr dl ou ol da eq al us by_ ln pl X) (.inl (some (.int (pI (bdS al us pl o s (K + Mo) 8).1)), (CA K Mo dr dl ou ol da eq al us by_ ln pl X))) := by
  refine Con.of ?_
  refine J.iconst d_V_roomiestDiskFor_0 (v := pI 0) (by decide) ?_
  refine J.istore_n d_V_roomiestDiskFor_1 rfl (by decide) rfl ?_
  refine J.iconst d_V_roomiestDiskFor_2 (v := nI 0) (by decide) ?_
  refine J.istore_n d_V_roomiestDiskFor_3 rfl (by decide) rfl ?_
  refine J.iconst d_V_roomiestDiskFor_4 (v := nI 0) (by decide) ?_
  refine J.istore d_V_roomiestDiskFor_5 (by decide) rfl ?_
  exact lp_V_room hS ho hs hp h2 ha 8 0 (by omega)
/-- a disk's first free slot -/
def fs0 (us : Nat → Nat) (d : Nat) : Nat → Nat → Nat
  | 0, i => i
  | n + 1, i => if us (10 * d + i) = 0 then i else fs0 us d n (i + 1)
def ff (us : Nat → Nat) (d : Nat) : Nat := fs0 us d 10 0
theorem fs0_spec {us : Nat → Nat} {d : Nat} (h2 : ∀ i, us i < 2) : ∀ (n i : Nat), (∀ x, x < i → us (10 * d + x) = 1) → i ≤ fs0 us d n i ∧ fs0 us d n i ≤ i + n ∧ (∀ x, x < fs0 us d n i → us (10 * d + x) = 1) ∧ (fs0 us d n i < i + n → us (10 * d + fs0 us d n i) = 0)
  | 0, i, h => ⟨Nat.le_refl _, Nat.le_refl _, h, fun z => absurd z (by unfold fs0; omega)⟩
  | n + 1, i, h => by
    unfold fs0; split
    · rename_i h0; exact ⟨Nat.le_refl _, by omega, h, fun _ => h0⟩
    · rename_i h0
      have h9 := h2 (10 * d + i)
      have := fs0_spec (d := d) h2 n (i + 1) (fun x hx => by
        rcases Nat.lt_or_ge x i with z | z
        · exact h x z
        · have : x = i := by omega
          subst this; omega)
      exact ⟨by omega, by omega, this.2.2.1, fun z => this.2.2.2 (by omega)⟩
theorem cs_all1 {f : Nat → Nat} : ∀ n, (∀ i, i < n → f i = 1) → cs f n = n
  | 0, _ => rfl
  | n + 1, h => by unfold cs; rw [cs_all1 n (fun i hi => h i (by omega)), h n (by omega)]
theorem ff_spec {us : Nat → Nat} {d : Nat} (h2 : ∀ i, us i < 2) (hu : ud us d < 10) : ff us d < 10 ∧ us (10 * d + ff us d) = 0 ∧ ∀ x, x < ff us d → us (10 * d + x) = 1 := by
  have h := fs0_spec (d := d) h2 10 0 (fun x hx => absurd hx (Nat.not_lt_zero _))
  have hlt : ff us d < 10 := by
    rcases Nat.lt_or_ge (ff us d) 10 with z | z
    · exact z
    · have := cs_all1 (f := fun s => us (10 * d + s)) 10 (fun i hi => h.2.2.1 i (Nat.lt_of_lt_of_le hi z))
      unfold ud at hu; omega
  exact ⟨hlt, h.2.2.2 (by unfold ff at hlt; omega), h.2.2.1⟩
/-- four bytes laid at a place -/
def b4 (by_ : Nat → Nat) (p : Nat) (f : Nat → Nat) : Nat → Nat → Nat
  | 0 => by_
  | n + 1 => up (b4 by_ p f n) (4 * p + n) (f n)
/-- the place that a shard gets (plus one, 0: none) -/
def gp (al us pl : Nat → Nat) (o s Sh : Nat) : Nat := if (bdS al us pl o s Sh 8).1 = 0 then 0 else 10 * ((bdS al us pl o s Sh 8).1 - 1) + ff us ((bdS al us pl o s Sh 8).1 - 1) + 1
theorem lp_V_lay {d z o s h : Nat} (hK : 0 < K) (hK4 : K ≤ 4) (hM : Mo ≤ 3) (hh : h < K + Mo) (hda : ∀ i, da i < 256) (hd : d < 8) (hz : z < 10) {lv3 : Value} {out : Out}
    (kk : J l i_V_placeShard 69 [(0, .ref 0), (1, .int (nI (o * 56 + s * (K + Mo)))), (2, .int (nI h)), (3, lv3), (4, .int (nI (16 * d + z)))] [] (CA K Mo dr dl ou ol da eq al us (b4 by_ (10 * d + z) (sb K da h) 4) ln pl X) 0 0 out) : ∀ (j i : Nat), i + j = 4 →
    J l i_V_placeShard 36 [(0, .ref 0), (1, .int (nI (o * 56 + s * (K + Mo)))), (2, .int (nI h)), (3, lv3), (4, .int (nI (16 * d + z))), (5, .int (nI i))] [] (CA K Mo dr dl ou ol da eq al us (b4 by_ (10 * d + z) (sb K da h) i) ln pl X) 0 0 out
  | 0, i, hi => by
    have hi' : i = 4 := by omega
    subst hi'
    refine J.iload d_V_placeShard_36 rfl ?_
    refine J.iconst d_V_placeShard_38 (v := nI 4) (by decide) ?_
    refine J.icmp_geN d_V_placeShard_39 (tgt := 69) (by decide) (by omega) (by omega) (fun h => ?_) (fun h => ?_)
    · exact J.sub [0, 1, 2, 3, 4] kk
    · omega
  | j + 1, i, hi => by
    have hi4 : i < 4 := by omega
    have ih := lp_V_lay hK hK4 hM hh hda hd hz kk j (i + 1) (by omega)
    refine J.iload d_V_placeShard_36 rfl ?_
    refine J.iconst d_V_placeShard_38 (v := nI 4) (by decide) ?_
    refine J.icmp_geN d_V_placeShard_39 (tgt := 69) (by decide) (by omega) (by omega) (fun h => ?_) (fun h => ?_)
    · omega
    refine J.aload_n d_V_placeShard_42 rfl rfl ?_
    refine J.getfield d_V_placeShard_43 fl_V_25 rfl rfl ?_
    refine J.iload d_V_placeShard_46 rfl ?_
    refine J.iload d_V_placeShard_48 rfl ?_
    refine J.aload_n d_V_placeShard_50 rfl rfl ?_
    refine J.getfield d_V_placeShard_51 fl_V_18 rfl rfl ?_
    refine J.iload_n d_V_placeShard_54 rfl rfl ?_
    refine J.iload d_V_placeShard_55 rfl ?_
    refine J.v2i (con_C_shardByte hK hK4 hM hh hi4 hda) k_V_placeShard_C_shardByte d_V_placeShard_57 rfl rfl rfl ?_
    refine J.v3v (con_D_setByte (by omega) hi4) k_V_placeShard_D_setByte d_V_placeShard_60 rfl rfl rfl ?_
    rw [by_up _ hz hi4]
    refine J.iincN d_V_placeShard_63 rfl rfl (by decide) rfl ?_
    refine J.goto d_V_placeShard_66 (tgt := 36) (by decide) ?_
    exact ih
theorem con_V_placeShard {o s h : Nat} (hK : 0 < K) (hK4 : K ≤ 4) (hM : Mo ≤ 3) (ho : o < 6) (hs : s < 8) (hh : h < K + Mo) (hda : ∀ i, da i < 256) (hp : ∀ i, pl i ≤ 80) (h2 : ∀ i, us i < 2) (ha : ∀ i, al i < 2) (hg : gp al us pl o s (K + Mo) ≠ 0) :
    Con l i_V_placeShard [.ref 0, .int (nI (o * 56 + s * (K + Mo))), .int (nI h)] (CA K Mo dr dl ou ol da eq al us by_ ln pl X) (.inl (some (.int (nI 1)), (CA K Mo dr dl ou ol da eq al (up us (gp al us pl o s (K + Mo) - 1) 1) (b4 by_ (gp al us pl o s (K + Mo) - 1) (sb K da h) 4) ln (up pl (56 * o + 7 * s + h) (gp al us pl o s (K + Mo))) X))) := by
  have hS : K + Mo ≤ 7 := by omega
  have hr : o * 56 + s * (K + Mo) + (K + Mo) ≤ 336 := by
    have h1 : (s + 1) * (K + Mo) ≤ 8 * 7 := Nat.mul_le_mul (by omega) hS
    rw [Nat.succ_mul] at h1; omega
  have hle := bdS_le al us pl o s (K + Mo) 8
  obtain ⟨b, eb⟩ : ∃ b, (bdS al us pl o s (K + Mo) 8).1 = b + 1 := ⟨(bdS al us pl o s (K + Mo) 8).1 - 1, by
    have : (bdS al us pl o s (K + Mo) 8).1 ≠ 0 := fun z => hg (by unfold gp; rw [if_pos z])
    omega⟩
  have hf := bdS_free al us pl o s (K + Mo) 8 (by omega)
  rw [eb, Nat.add_sub_cancel] at hf
  have hb8 : b < 8 := by omega
  obtain ⟨f1, f2, f3⟩ := ff_spec h2 hf.1
  have eg : gp al us pl o s (K + Mo) = 10 * b + ff us b + 1 := by unfold gp; rw [if_neg (by omega), eb, Nat.add_sub_cancel]
  rw [eg, Nat.add_sub_cancel]
  generalize ff us b = z at f1 f2 f3
  have hc := con_V_room4 (l := l) (dl := dl) (ol := ol) (dr := dr) (ou := ou) (da := da) (eq := eq) (by_ := by_) (ln := ln) (X := X) hS ho hs hp h2 ha
  rw [eb, pI_succ] at hc
  have ht := con_D_takeSlot (l := l) (K := K) (Mo := Mo) (dl := dl) (ol := ol) (dr := dr) (ou := ou) (da := da) (eq := eq) (al := al) (fr := frOf us) (tk := tkOf us) (by_ := byOf by_) (ln := ln) (pl := plOf (K + Mo) pl) (X := X) hb8 f1 (by rw [tk_at us f1]; exact f2) (fun i hi => by rw [tk_at us (by omega)]; exact f3 i hi) (by rw [fr_at us hb8]; omega)
  rw [tk_up us f1, fr_take hb8 f1 f2 h2] at ht
  have hsp := fun (us' by' : Nat → Nat) => con_G_setPlace (l := l) (K := K) (Mo := Mo) (dl := dl) (ol := ol) (dr := dr) (ou := ou) (da := da) (eq := eq) (al := al) (fr := frOf us') (tk := tkOf us') (by_ := byOf by') (ln := ln) (pl := plOf (K + Mo) pl) (X := X) (r := o * 56 + s * (K + Mo)) (h := h) (v := tr (10 * b + z + 1)) (by omega)
  have e16 : tr (10 * b + z + 1) = 16 * b + z + 1 := by rw [tr_s]; omega
  rw [pl_up pl hS hs hh] at hsp
  rw [e16, pI_succ] at hsp
  refine Con.of ?_
  refine J.aload_n d_V_placeShard_0 rfl rfl ?_
  refine J.iload_n d_V_placeShard_1 rfl rfl ?_
  refine J.v1i hc k_V_placeShard_V_roomiestDiskFor d_V_placeShard_2 rfl rfl rfl ?_
  refine J.istore_n d_V_placeShard_5 rfl (by decide) rfl ?_
  refine J.iload_n d_V_placeShard_6 rfl rfl ?_
  refine J.iconst d_V_placeShard_7 (v := pI 0) (by decide) ?_
  refine J.icmp_neK d_V_placeShard_8 (tgt := 15) (by decide) (by omega) ?_
  refine J.aload_n d_V_placeShard_15 rfl rfl ?_
  refine J.getfield d_V_placeShard_16 fl_V_25 rfl rfl ?_
  refine J.iload_n d_V_placeShard_19 rfl rfl ?_
  refine J.v1i ht k_V_placeShard_D_takeSlot d_V_placeShard_20 rfl rfl rfl ?_
  refine J.istore d_V_placeShard_23 (by decide) rfl ?_
  refine J.iload d_V_placeShard_25 rfl ?_
  refine J.iconst d_V_placeShard_27 (v := pI 0) (by decide) ?_
  refine J.icmp_neK d_V_placeShard_28 (tgt := 33) (by decide) (by omega) ?_
  refine J.iconst d_V_placeShard_33 (v := nI 0) (by decide) ?_
  refine J.istore d_V_placeShard_34 (by decide) rfl ?_
  refine lp_V_lay (o := o) (s := s) hK hK4 hM hh hda hb8 f1 ?_ 4 0 (by omega)
  refine J.aload_n d_V_placeShard_69 rfl rfl ?_
  refine J.getfield d_V_placeShard_70 fl_V_32 rfl rfl ?_
  refine J.iload_n d_V_placeShard_73 rfl rfl ?_
  refine J.iload_n d_V_placeShard_74 rfl rfl ?_
  refine J.iload d_V_placeShard_75 rfl ?_
  refine J.v3v (hsp _ _) k_V_placeShard_G_setPlace d_V_placeShard_77 rfl rfl rfl ?_
  refine J.iconst d_V_placeShard_80 (v := nI 1) (by decide) ?_
  first | exact J.zreturn d_V_placeShard_81 rfl rfl (by decide) (by decide) | exact J.zreturnN d_V_placeShard_81 rfl (by omega) (by decide) (by decide)
theorem con_V_placeShard0 {o s h : Nat} (hS : K + Mo ≤ 7) (ho : o < 6) (hs : s < 8) (hp : ∀ i, pl i ≤ 80) (h2 : ∀ i, us i < 2) (ha : ∀ i, al i < 2) (hg : gp al us pl o s (K + Mo) = 0) :
    Con l i_V_placeShard [.ref 0, .int (nI (o * 56 + s * (K + Mo))), .int (nI h)] (CA K Mo dr dl ou ol da eq al us by_ ln pl X) (.inl (some (.int (nI 0)), (CA K Mo dr dl ou ol da eq al us by_ ln pl X))) := by
  have eb : (bdS al us pl o s (K + Mo) 8).1 = 0 := by
    rcases Nat.eq_zero_or_pos (bdS al us pl o s (K + Mo) 8).1 with z | z
    · exact z
    · unfold gp at hg; rw [if_neg (by omega)] at hg; omega
  have hc := con_V_room4 (l := l) (dl := dl) (ol := ol) (dr := dr) (ou := ou) (da := da) (eq := eq) (by_ := by_) (ln := ln) (X := X) hS ho hs hp h2 ha
  rw [eb] at hc
  refine Con.of ?_
  refine J.aload_n d_V_placeShard_0 rfl rfl ?_
  refine J.iload_n d_V_placeShard_1 rfl rfl ?_
  refine J.v1i hc k_V_placeShard_V_roomiestDiskFor d_V_placeShard_2 rfl rfl rfl ?_
  refine J.istore_n d_V_placeShard_5 rfl (by decide) rfl ?_
  refine J.iload_n d_V_placeShard_6 rfl rfl ?_
  refine J.iconst d_V_placeShard_7 (v := pI 0) (by decide) ?_
  refine J.icmp_neP d_V_placeShard_8 (tgt := 15) (by decide) (by omega) (by omega) (fun q => absurd rfl q) (fun _ => ?_)
  refine J.iconst d_V_placeShard_11 (v := pI 0) (by decide) ?_
  refine J.goto d_V_placeShard_12 (tgt := 23) (by decide) ?_
  refine J.istore d_V_placeShard_23 (by decide) rfl ?_
  refine J.iload d_V_placeShard_25 rfl ?_
  refine J.iconst d_V_placeShard_27 (v := pI 0) (by decide) ?_
  refine J.icmp_neP d_V_placeShard_28 (tgt := 33) (by decide) (by omega) (by omega) (fun q => absurd rfl q) (fun _ => ?_)
  refine J.iconst d_V_placeShard_31 (v := nI 0) (by decide) ?_
  first | exact J.zreturn d_V_placeShard_32 rfl rfl (by decide) (by decide) | exact J.zreturnN d_V_placeShard_32 rfl (by omega) (by decide) (by decide)
end PLACE
