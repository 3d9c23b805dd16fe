/-! Where a shard goes, a shard laid, an object cleared: the reference's side -/
section REFLAY
variable {l : Launch} {P : Nat → va_E} {K Mo co sz os : Nat} {dr al us by_ ln pl ou rd sp rw : Nat → Nat} {Y : List va_E}
theorem bdS_most (al us pl : Nat → Nat) (o s Sh : Nat) : ∀ d, ((bdS al us pl o s Sh d).1 = 0 → (bdS al us pl o s Sh d).2 = 0) ∧ ((bdS al us pl o s Sh d).1 ≠ 0 → (bdS al us pl o s Sh d).2 = 10 - ud us ((bdS al us pl o s Sh d).1 - 1))
  | 0 => ⟨fun _ => rfl, fun h => absurd rfl h⟩
  | d + 1 => by
    have ih := bdS_most al us pl o s Sh d
    unfold bdS; split
    · exact ⟨fun h => absurd h (Nat.succ_ne_zero _), fun _ => by simp⟩
    · exact ih
/-- the disk has room, and none of the stripe's first i shards -/
def opn (al us pl : Nat → Nat) (o s d i : Nat) : Bool := decide (0 < (if al d = 0 then 0 else 10 - ud us d)) && !(anyB (fun h => od10 d (pl (56 * o + 7 * s + h))) i)
theorem lp_R_open {o s d : Nat} (ho : o < 6) (hs : s < 8) (hd : d < 8) (hS : K + Mo ≤ 7) (hp : ∀ i, pl i ≤ 80) {b : Value} {out : Out}
    (kk : J l i_R_slotFor 85 [(0, .ref 15), (1, .int (nI o)), (2, .int (nI s)), (3, b), (4, .int (nI d)), (5, .int (nI (b2n (opn al us pl o s d (K + Mo)))))] [] (RM P K Mo co dr sz al us by_ ln pl os ou rd sp rw Y) 0 0 out) : ∀ (j i : Nat), i + j = K + Mo →
    J l i_R_slotFor 31 [(0, .ref 15), (1, .int (nI o)), (2, .int (nI s)), (3, b), (4, .int (nI d)), (5, .int (nI (b2n (opn al us pl o s d i)))), (6, .int (nI i))] [] (RM P K Mo co dr sz al us by_ ln pl os ou rd sp rw Y) 0 0 out
  | 0, i, hi => by
    have hi' : i = K + Mo := by omega
    rw [hi']
    refine J.iload d_R_slotFor_31 rfl ?_
    refine J.aload_n d_R_slotFor_33 rfl rfl ?_
    refine J.v0i con_R_shards k_R_slotFor_R_shards d_R_slotFor_34 rfl rfl rfl ?_
    refine J.icmp_geN d_R_slotFor_37 (tgt := 85) (by decide) (by omega) (by omega) (fun h => ?_) (fun h => ?_)
    · exact J.sub [0, 1, 2, 3, 4, 5] kk
    · omega
  | j + 1, i, hi => by
    have ih := lp_R_open ho hs hd hS hp kk j (i + 1) (by omega)
    have hpi := hp (56 * o + 7 * s + i)
    have hbt : b2n true = 1 := rfl
    have hbf : b2n false = 0 := rfl
    have e : opn al us pl o s d (i + 1) = (opn al us pl o s d i && !(od10 d (pl (56 * o + 7 * s + i)))) := by
      unfold opn
      show (_ && !(anyB _ i || _)) = _
      rw [Bool.not_or, Bool.and_assoc]
    rw [e] at ih
    refine J.iload d_R_slotFor_31 rfl ?_
    refine J.aload_n d_R_slotFor_33 rfl rfl ?_
    refine J.v0i con_R_shards k_R_slotFor_R_shards d_R_slotFor_34 rfl rfl rfl ?_
    refine J.icmp_geN d_R_slotFor_37 (tgt := 85) (by decide) (by omega) (by omega) (fun h => ?_) (fun h => ?_)
    · omega
    cases hz : opn al us pl o s d i with
    | false =>
      rw [hz] at ih
      refine J.iload d_R_slotFor_40 rfl ?_
      refine J.if_eqN d_R_slotFor_42 (tgt := 76) (by decide) (by omega) (fun h2 => ?_) (fun h2 => ?_)
      · refine J.iconst d_R_slotFor_76 (v := nI 0) (by decide) ?_
        refine J.istore d_R_slotFor_77 (by decide) rfl ?_
        refine J.iincN d_R_slotFor_79 rfl rfl (by decide) rfl ?_
        refine J.goto d_R_slotFor_82 (tgt := 31) (by decide) ?_
        exact ih
      · exact absurd rfl h2
    | true =>
      rw [hz] at ih
      refine J.iload d_R_slotFor_40 rfl ?_
      refine J.if_eqN d_R_slotFor_42 (tgt := 76) (by decide) (by omega) (fun h2 => ?_) (fun h2 => ?_)
      · exact absurd h2 (by decide)
      refine J.aload_n d_R_slotFor_45 rfl rfl ?_
      refine J.iload_n d_R_slotFor_46 rfl rfl ?_
      refine J.iload_n d_R_slotFor_47 rfl rfl ?_
      refine J.iload d_R_slotFor_48 rfl ?_
      rcases Nat.eq_zero_or_pos (pl (56 * o + 7 * s + i)) with h0 | h0
      · have e3 : od10 d (pl (56 * o + 7 * s + i)) = false := by simp [od10, h0]
        rw [e3] at ih
        refine J.v3i (con_R_place ho hs (by omega)) k_R_slotFor_R_place d_R_slotFor_50 rfl rfl rfl ?_
        refine J.if_ltP d_R_slotFor_53 (tgt := 72) (by decide) (by omega) (fun _ => ?_) (fun q => absurd h0 (by omega))
        refine J.iconst d_R_slotFor_72 (v := nI 1) (by decide) ?_
        refine J.goto d_R_slotFor_73 (tgt := 77) (by decide) ?_
        refine J.istore d_R_slotFor_77 (by decide) rfl ?_
        refine J.iincN d_R_slotFor_79 rfl rfl (by decide) rfl ?_
        refine J.goto d_R_slotFor_82 (tgt := 31) (by decide) ?_
        exact ih
      · have hc := con_R_place (l := l) (P := P) (K := K) (Mo := Mo) (co := co) (sz := sz) (os := os) (dr := dr) (al := al) (us := us) (by_ := by_) (ln := ln) (pl := pl) (ou := ou) (rd := rd) (sp := sp) (rw := rw) (Y := Y) ho hs (show i < 7 by omega)
        obtain ⟨p, ep⟩ : ∃ p, pl (56 * o + 7 * s + i) = p + 1 := ⟨pl (56 * o + 7 * s + i) - 1, by omega⟩
        rw [ep, pI_succ] at hc
        refine J.v3i hc k_R_slotFor_R_place d_R_slotFor_50 rfl rfl rfl ?_
        refine J.if_ltN d_R_slotFor_53 (tgt := 72) (by decide) (by omega) (fun _ => ?_)
        refine J.aload_n d_R_slotFor_56 rfl rfl ?_
        refine J.iload_n d_R_slotFor_57 rfl rfl ?_
        refine J.iload_n d_R_slotFor_58 rfl rfl ?_
        refine J.iload d_R_slotFor_59 rfl ?_
        refine J.v3i hc k_R_slotFor_R_place d_R_slotFor_61 rfl rfl rfl ?_
        refine J.bipush d_R_slotFor_64 (v := nI 10) (by decide) ?_
        refine J.idivN d_R_slotFor_66 (by omega) (by omega) (by omega) ?_
        refine J.iload d_R_slotFor_67 rfl ?_
        refine J.icmp_eqN d_R_slotFor_69 (tgt := 76) (by decide) (by omega) (by omega) (fun h3 => ?_) (fun h3 => ?_)
        · have e3 : od10 d (pl (56 * o + 7 * s + i)) = true := by simp [od10, ep, h3]
          rw [e3] at ih
          refine J.iconst d_R_slotFor_76 (v := nI 0) (by decide) ?_
          refine J.istore d_R_slotFor_77 (by decide) rfl ?_
          refine J.iincN d_R_slotFor_79 rfl rfl (by decide) rfl ?_
          refine J.goto d_R_slotFor_82 (tgt := 31) (by decide) ?_
          exact ih
        · have e3 : od10 d (pl (56 * o + 7 * s + i)) = false := by simp [od10, ep, h3]
          rw [e3] at ih
          refine J.iconst d_R_slotFor_72 (v := nI 1) (by decide) ?_
          refine J.goto d_R_slotFor_73 (tgt := 77) (by decide) ?_
          refine J.istore d_R_slotFor_77 (by decide) rfl ?_
          refine J.iincN d_R_slotFor_79 rfl rfl (by decide) rfl ?_
          refine J.goto d_R_slotFor_82 (tgt := 31) (by decide) ?_
          exact ih
theorem lp_R_slot {o s : Nat} (ho : o < 6) (hs : s < 8) (hS : K + Mo ≤ 7) (hp : ∀ i, pl i ≤ 80) (h2 : ∀ i, us i < 2) (ha : ∀ i, al i < 2) {out : Out}
    (kk : J l i_R_slotFor 121 [(0, .ref 15), (1, .int (nI o)), (2, .int (nI s)), (3, .int (pI (bdS al us pl o s (K + Mo) 8).1)), (4, .int (nI 8))] [] (RM P K Mo co dr sz al us by_ ln pl os ou rd sp rw Y) 0 0 out) : ∀ (j i : Nat), i + j = 8 →
    J l i_R_slotFor 5 [(0, .ref 15), (1, .int (nI o)), (2, .int (nI s)), (3, .int (pI (bdS al us pl o s (K + Mo) i).1)), (4, .int (nI i))] [] (RM P K Mo co dr sz al us by_ ln pl os ou rd sp rw Y) 0 0 out
  | 0, i, hi => by
    have hi' : i = 8 := by omega
    rw [hi']
    refine J.iload d_R_slotFor_5 rfl ?_
    refine J.bipush d_R_slotFor_7 (v := nI 8) (by decide) ?_
    refine J.icmp_geN d_R_slotFor_9 (tgt := 121) (by decide) (by omega) (by omega) (fun h => ?_) (fun h => ?_)
    · exact kk
    · omega
  | j + 1, i, hi => by
    have hi8 : i < 8 := by omega
    have ih := lp_R_slot ho hs hS hp h2 ha kk j (i + 1) (by omega)
    have hle := bdS_le al us pl o s (K + Mo) i
    have hmo := bdS_most al us pl o s (K + Mo) i
    have hfr := bdS_free al us pl o s (K + Mo) i
    have hu := ud_le h2 i
    have hbt : b2n true = 1 := rfl
    have hbf : b2n false = 0 := rfl
    have no : ¬ (al i ≠ 0 ∧ (bdS al us pl o s (K + Mo) i).2 < 10 - ud us i ∧ onD pl o s (K + Mo) i = false) → bdS al us pl o s (K + Mo) (i + 1) = bdS al us pl o s (K + Mo) i := fun hn => by
      show (if _ then _ else _) = _
      rw [if_neg hn]
    have yes : (al i ≠ 0 ∧ (bdS al us pl o s (K + Mo) i).2 < 10 - ud us i ∧ onD pl o s (K + Mo) i = false) → bdS al us pl o s (K + Mo) (i + 1) = (i + 1, 10 - ud us i) := fun hn => by
      show (if _ then _ else _) = _
      rw [if_pos hn]
    have hfi : (if al i = 0 then 0 else 10 - ud us i) < 2 ^ 31 := by split <;> omega
    have inner : J l i_R_slotFor 85 [(0, .ref 15), (1, .int (nI o)), (2, .int (nI s)), (3, .int (pI (bdS al us pl o s (K + Mo) i).1)), (4, .int (nI i)), (5, .int (nI (b2n (opn al us pl o s i (K + Mo)))))] [] (RM P K Mo co dr sz al us by_ ln pl os ou rd sp rw Y) 0 0 out := by
      cases hz : opn al us pl o s i (K + Mo) with
      | false =>
        have hn : ¬ (al i ≠ 0 ∧ (bdS al us pl o s (K + Mo) i).2 < 10 - ud us i ∧ onD pl o s (K + Mo) i = false) := by
          rintro ⟨z1, z2, z3⟩
          unfold opn at hz
          rw [if_neg z1] at hz
          unfold onD at z3
          rw [z3, decide_eq_true (by omega)] at hz
          exact absurd hz (by decide)
        rw [no hn] at ih
        refine J.iload d_R_slotFor_85 rfl ?_
        refine J.if_eqN d_R_slotFor_87 (tgt := 113) (by decide) (by omega) (fun h3 => ?_) (fun h3 => ?_)
        · refine J.iload_n d_R_slotFor_113 rfl rfl ?_
          refine J.istore_n d_R_slotFor_114 rfl (by decide) rfl ?_
          refine J.iincN d_R_slotFor_115 rfl rfl (by decide) rfl ?_
          refine J.goto d_R_slotFor_118 (tgt := 5) (by decide) ?_
          exact J.sub [0, 1, 2, 3, 4] ih
        · exact absurd rfl h3
      | true =>
        have hz2 : al i ≠ 0 ∧ 0 < 10 - ud us i ∧ onD pl o s (K + Mo) i = false := by
          unfold opn at hz
          simp only [Bool.and_eq_true, decide_eq_true_eq, Bool.not_eq_true'] at hz
          obtain ⟨q1, q2⟩ := hz
          by_cases z : al i = 0
          · rw [if_pos z] at q1; omega
          · rw [if_neg z] at q1; exact ⟨z, q1, q2⟩
        refine J.iload d_R_slotFor_85 rfl ?_
        refine J.if_eqN d_R_slotFor_87 (tgt := 113) (by decide) (by omega) (fun h3 => ?_) (fun h3 => ?_)
        · exact absurd h3 (by decide)
        rcases Nat.eq_zero_or_pos (bdS al us pl o s (K + Mo) i).1 with hb0 | hb0
        · rw [yes ⟨hz2.1, by rw [hmo.1 hb0]; exact hz2.2.1, hz2.2.2⟩] at ih
          dsimp only at ih
          rw [pI_succ] at ih
          refine J.iload_n d_R_slotFor_90 rfl rfl ?_
          refine J.if_ltP d_R_slotFor_91 (tgt := 108) (by decide) (by omega) (fun _ => ?_) (fun q => absurd hb0 (by omega))
          refine J.iload d_R_slotFor_108 rfl ?_
          refine J.goto d_R_slotFor_110 (tgt := 114) (by decide) ?_
          refine J.istore_n d_R_slotFor_114 rfl (by decide) rfl ?_
          refine J.iincN d_R_slotFor_115 rfl rfl (by decide) rfl ?_
          refine J.goto d_R_slotFor_118 (tgt := 5) (by decide) ?_
          exact J.sub [0, 1, 2, 3, 4] ih
        · obtain ⟨b, eb⟩ : ∃ b, (bdS al us pl o s (K + Mo) i).1 = b + 1 := ⟨(bdS al us pl o s (K + Mo) i).1 - 1, by omega⟩
          have hm2 := hmo.2 (by omega)
          have hf2 := hfr (by omega)
          rw [eb, Nat.add_sub_cancel] at hm2 hf2
          have hb8 : b < 8 := by omega
          have hfb := con_R_free (l := l) (P := P) (K := K) (Mo := Mo) (co := co) (sz := sz) (os := os) (dr := dr) (by_ := by_) (ln := ln) (pl := pl) (ou := ou) (rd := rd) (sp := sp) (rw := rw) (Y := Y) hb8 h2 ha
          rw [if_neg hf2.2] at hfb
          have hfi2 := con_R_free (l := l) (P := P) (K := K) (Mo := Mo) (co := co) (sz := sz) (os := os) (dr := dr) (by_ := by_) (ln := ln) (pl := pl) (ou := ou) (rd := rd) (sp := sp) (rw := rw) (Y := Y) hi8 h2 ha
          rw [if_neg hz2.1] at hfi2
          have goal2 : J l i_R_slotFor 90 [(0, .ref 15), (1, .int (nI o)), (2, .int (nI s)), (3, .int (nI b)), (4, .int (nI i)), (5, .int (nI (b2n true)))] [] (RM P K Mo co dr sz al us by_ ln pl os ou rd sp rw Y) 0 0 out := by
            refine J.iload_n d_R_slotFor_90 rfl rfl ?_
            refine J.if_ltN d_R_slotFor_91 (tgt := 108) (by decide) (by omega) (fun _ => ?_)
            refine J.aload_n d_R_slotFor_94 rfl rfl ?_
            refine J.iload d_R_slotFor_95 rfl ?_
            refine J.v1i hfi2 k_R_slotFor_R_free d_R_slotFor_97 rfl rfl rfl ?_
            refine J.aload_n d_R_slotFor_100 rfl rfl ?_
            refine J.iload_n d_R_slotFor_101 rfl rfl ?_
            refine J.v1i hfb k_R_slotFor_R_free d_R_slotFor_102 rfl rfl rfl ?_
            refine J.icmp_leN d_R_slotFor_105 (tgt := 113) (by decide) (by omega) (by omega) (fun h4 => ?_) (fun h4 => ?_)
            · rw [no (fun z => by omega), eb, pI_succ] at ih
              refine J.iload_n d_R_slotFor_113 rfl rfl ?_
              refine J.istore_n d_R_slotFor_114 rfl (by decide) rfl ?_
              refine J.iincN d_R_slotFor_115 rfl rfl (by decide) rfl ?_
              refine J.goto d_R_slotFor_118 (tgt := 5) (by decide) ?_
              exact J.sub [0, 1, 2, 3, 4] ih
            · rw [yes ⟨hz2.1, by omega, hz2.2.2⟩] at ih
              dsimp only at ih
              rw [pI_succ] at ih
              refine J.iload d_R_slotFor_108 rfl ?_
              refine J.goto d_R_slotFor_110 (tgt := 114) (by decide) ?_
              refine J.istore_n d_R_slotFor_114 rfl (by decide) rfl ?_
              refine J.iincN d_R_slotFor_115 rfl rfl (by decide) rfl ?_
              refine J.goto d_R_slotFor_118 (tgt := 5) (by decide) ?_
              exact J.sub [0, 1, 2, 3, 4] ih
          rw [eb, pI_succ]
          exact goal2
    refine J.iload d_R_slotFor_5 rfl ?_
    refine J.bipush d_R_slotFor_7 (v := nI 8) (by decide) ?_
    refine J.icmp_geN d_R_slotFor_9 (tgt := 121) (by decide) (by omega) (by omega) (fun h => ?_) (fun h => ?_)
    · omega
    refine J.aload_n d_R_slotFor_12 rfl rfl ?_
    refine J.iload d_R_slotFor_13 rfl ?_
    refine J.v1i (con_R_free hi8 h2 ha) k_R_slotFor_R_free d_R_slotFor_15 rfl rfl rfl ?_
    have hop : b2n (opn al us pl o s i 0) = if 0 < (if al i = 0 then 0 else 10 - ud us i) then 1 else 0 := by
      unfold opn b2n anyB
      by_cases z : 0 < (if al i = 0 then 0 else 10 - ud us i) <;> simp [z]
    refine J.if_leN d_R_slotFor_18 (tgt := 25) (by decide) (by omega) (fun h4 => ?_) (fun h4 => ?_)
    · rw [if_neg (by omega)] at hop
      refine J.iconst d_R_slotFor_25 (v := nI 0) (by decide) ?_
      refine J.istore d_R_slotFor_26 (by decide) rfl ?_
      refine J.iconst d_R_slotFor_28 (v := nI 0) (by decide) ?_
      refine J.istore d_R_slotFor_29 (by decide) rfl ?_
      have hh := lp_R_open ho hs hi8 hS hp inner (K + Mo) 0 (by omega)
      rw [hop] at hh
      exact hh
    · rw [if_pos (by omega)] at hop
      refine J.iconst d_R_slotFor_21 (v := nI 1) (by decide) ?_
      refine J.goto d_R_slotFor_22 (tgt := 26) (by decide) ?_
      refine J.istore d_R_slotFor_26 (by decide) rfl ?_
      refine J.iconst d_R_slotFor_28 (v := nI 0) (by decide) ?_
      refine J.istore d_R_slotFor_29 (by decide) rfl ?_
      have hh := lp_R_open ho hs hi8 hS hp inner (K + Mo) 0 (by omega)
      rw [hop] at hh
      exact hh
theorem lp_R_first {b o s : Nat} (hb : b < 8) (f1 : ff us b < 10) (f2 : us (10 * b + ff us b) = 0) (f3 : ∀ x, x < ff us b → us (10 * b + x) = 1) : ∀ (j i : Nat), i + j = ff us b →
    J l i_R_slotFor 133 [(0, .ref 15), (1, .int (nI o)), (2, .int (nI s)), (3, .int (nI b)), (4, .int (nI (10 * b + i)))] [] (RM P K Mo co dr sz al us by_ ln pl os ou rd sp rw Y) 0 0 (.inl (some (.int (nI (10 * b + ff us b))), (RM P K Mo co dr sz al us by_ ln pl os ou rd sp rw Y)))
  | 0, i, hi => by
    have hi' : i = ff us b := by omega
    rw [hi']
    refine J.aload_n d_R_slotFor_133 rfl rfl ?_
    refine J.getfield d_R_slotFor_134 fl_R_17 rfl rfl ?_
    refine J.iload d_R_slotFor_137 rfl ?_
    refine J.baloadN d_R_slotFor_139 rfl (by omega) (by omega) ?_
    rw [f2]
    refine J.if_eqN d_R_slotFor_140 (tgt := 149) (by decide) (by omega) (fun h => ?_) (fun h => ?_)
    · refine J.iload d_R_slotFor_149 rfl ?_
      exact J.ireturn d_R_slotFor_151 rfl (by decide) (by decide)
    · exact absurd rfl h
  | j + 1, i, hi => by
    have h1 := f3 i (by omega)
    refine J.aload_n d_R_slotFor_133 rfl rfl ?_
    refine J.getfield d_R_slotFor_134 fl_R_17 rfl rfl ?_
    refine J.iload d_R_slotFor_137 rfl ?_
    refine J.baloadN d_R_slotFor_139 rfl (by omega) (by omega) ?_
    rw [h1]
    refine J.if_eqN d_R_slotFor_140 (tgt := 149) (by decide) (by omega) (fun h => ?_) (fun h => ?_)
    · exact absurd h (by decide)
    · refine J.iincN d_R_slotFor_143 rfl rfl (by decide) rfl ?_
      refine J.goto d_R_slotFor_146 (tgt := 133) (by decide) ?_
      exact lp_R_first hb f1 f2 f3 j (i + 1) (by omega)
theorem con_R_slotFor {o s : Nat} (ho : o < 6) (hs : s < 8) (hS : K + Mo ≤ 7) (hp : ∀ i, pl i ≤ 80) (h2 : ∀ i, us i < 2) (ha : ∀ i, al i < 2) : Con l i_R_slotFor [.ref 15, .int (nI o), .int (nI s)] (RM P K Mo co dr sz al us by_ ln pl os ou rd sp rw Y) (.inl (some (.int (pI (gp al us pl o s (K + Mo)))), (RM P K Mo co dr sz al us by_ ln pl os ou rd sp rw Y))) := by
  have hle := bdS_le al us pl o s (K + Mo) 8
  refine Con.of ?_
  refine J.iconst d_R_slotFor_0 (v := pI 0) (by decide) ?_
  refine J.istore_n d_R_slotFor_1 rfl (by decide) rfl ?_
  refine J.iconst d_R_slotFor_2 (v := nI 0) (by decide) ?_
  refine J.istore d_R_slotFor_3 (by decide) rfl ?_
  refine lp_R_slot ho hs hS hp h2 ha ?_ 8 0 (by omega)
  rcases Nat.eq_zero_or_pos (bdS al us pl o s (K + Mo) 8).1 with hb0 | hb0
  · have eg : gp al us pl o s (K + Mo) = 0 := by unfold gp; rw [if_pos hb0]
    rw [eg]
    refine J.iload_n d_R_slotFor_121 rfl rfl ?_
    refine J.if_geP d_R_slotFor_122 (tgt := 127) (by decide) (by omega) (fun q => absurd hb0 (by omega)) (fun _ => ?_)
    refine J.iconst d_R_slotFor_125 (v := pI 0) (by decide) ?_
    exact J.ireturn d_R_slotFor_126 rfl (by decide) (by decide)
  · obtain ⟨b, eb⟩ : ∃ b, (bdS al us pl o s (K + Mo) 8).1 = b + 1 := ⟨(bdS al us pl o s (K + Mo) 8).1 - 1, by omega⟩
    have hf := bdS_free al us pl o s (K + Mo) 8 (by omega)
    rw [eb, Nat.add_sub_cancel] at hf
    obtain ⟨f1, f2, f3⟩ := ff_spec h2 hf.1
    have eg : gp al us pl o s (K + Mo) = 10 * b + ff us b + 1 := by unfold gp; rw [if_neg (by omega), eb, Nat.add_sub_cancel]
    rw [eg, pI_succ, eb, pI_succ]
    refine J.iload_n d_R_slotFor_121 rfl rfl ?_
    refine J.if_geN d_R_slotFor_122 (tgt := 127) (by decide) (by omega) (fun _ => ?_)
    refine J.bipush d_R_slotFor_127 (v := nI 10) (by decide) ?_
    refine J.iload_n d_R_slotFor_129 rfl rfl ?_
    refine J.imulN d_R_slotFor_130 ?_
    refine J.istore d_R_slotFor_131 (by decide) rfl ?_
    exact lp_R_first (by omega) f1 f2 f3 (ff us b) 0 (by omega)
theorem lp_R_lay {p o s h : Nat} (hp80 : p < 80) (hK4 : K ≤ 4) (hS : K + Mo ≤ 7) (hh : h < K + Mo) (hsp : ∀ i, sp i < 256) : ∀ (j i : Nat), i + j = 4 →
    J l i_R_lay 44 [(0, .ref 15), (1, .int (nI o)), (2, .int (nI s)), (3, .int (nI h)), (4, .int (nI p)), (5, .int (nI i))] [] (RM P K Mo co dr sz al us (b4 by_ p (sb K sp h) i) ln pl os ou rd sp rw Y) 0 0 (.inl (some (.int (nI 1)), (RM P K Mo co dr sz al us (b4 by_ p (sb K sp h) 4) ln pl os ou rd sp rw Y)))
  | 0, i, hi => by
    have hi' : i = 4 := by omega
    rw [hi']
    refine J.iload d_R_lay_44 rfl ?_
    refine J.iconst d_R_lay_46 (v := nI 4) (by decide) ?_
    refine J.icmp_geN d_R_lay_47 (tgt := 75) (by decide) (by omega) (by omega) (fun hq => ?_) (fun hq => ?_)
    · refine J.iconst d_R_lay_75 (v := nI 1) (by decide) ?_
      first | exact J.zreturn d_R_lay_76 rfl rfl (by decide) (by decide) | exact J.zreturnN d_R_lay_76 rfl (by omega) (by decide) (by decide)
    · omega
  | j + 1, i, hi => by
    have ih := lp_R_lay (o := o) (s := s) hp80 hK4 hS hh hsp j (i + 1) (by omega)
    refine J.iload d_R_lay_44 rfl ?_
    refine J.iconst d_R_lay_46 (v := nI 4) (by decide) ?_
    refine J.icmp_geN d_R_lay_47 (tgt := 75) (by decide) (by omega) (by omega) (fun hq => ?_) (fun hq => ?_)
    · omega
    refine J.aload_n d_R_lay_50 rfl rfl ?_
    refine J.getfield d_R_lay_51 fl_R_20 rfl rfl ?_
    refine J.iconst d_R_lay_54 (v := nI 4) (by decide) ?_
    refine J.iload d_R_lay_55 rfl ?_
    refine J.imulN d_R_lay_57 ?_
    refine J.iload d_R_lay_58 rfl ?_
    refine J.iaddN d_R_lay_60 ?_
    refine J.aload_n d_R_lay_61 rfl rfl ?_
    refine J.iload_n d_R_lay_62 rfl rfl ?_
    refine J.iload d_R_lay_63 rfl ?_
    refine J.v2i (con_R_worked hK4 hS hh (by omega) hsp) k_R_lay_R_worked d_R_lay_65 rfl rfl rfl ?_
    refine J.iastoreN d_R_lay_68 rfl (by omega) (by omega) ?_
    refine J.iincN d_R_lay_69 rfl rfl (by decide) rfl ?_
    refine J.goto d_R_lay_72 (tgt := 44) (by decide) ?_
    exact ih
theorem con_R_lay {o s h : Nat} (ho : o < 6) (hs : s < 8) (hK4 : K ≤ 4) (hS : K + Mo ≤ 7) (hh : h < K + Mo) (hp : ∀ i, pl i ≤ 80) (h2 : ∀ i, us i < 2) (ha : ∀ i, al i < 2) (hsp : ∀ i, sp i < 256) (hg : gp al us pl o s (K + Mo) ≠ 0) :
    Con l i_R_lay [.ref 15, .int (nI o), .int (nI s), .int (nI h)] (RM P K Mo co dr sz al us by_ ln pl os ou rd sp rw Y) (.inl (some (.int (nI 1)), (RM P K Mo co dr sz al (up us (gp al us pl o s (K + Mo) - 1) 1) (b4 by_ (gp al us pl o s (K + Mo) - 1) (sb K sp h) 4) ln (up pl (56 * o + 7 * s + h) (gp al us pl o s (K + Mo))) os ou rd sp rw Y))) := by
  have hc := con_R_slotFor (l := l) (P := P) (K := K) (Mo := Mo) (co := co) (sz := sz) (os := os) (dr := dr) (by_ := by_) (ln := ln) (ou := ou) (rd := rd) (sp := sp) (rw := rw) (Y := Y) ho hs hS hp h2 ha
  have hle := gp_le al us pl o s (K + Mo) h2
  obtain ⟨p, ep⟩ : ∃ p, gp al us pl o s (K + Mo) = p + 1 := ⟨gp al us pl o s (K + Mo) - 1, by omega⟩
  rw [ep, pI_succ] at hc
  rw [ep, Nat.add_sub_cancel]
  have key : J l i_R_lay 23 [(0, .ref 15), (1, .int (nI o)), (2, .int (nI s)), (3, .int (nI h)), (4, .int (pI (p + 1)))] [] (RM P K Mo co dr sz al (up us p 1) by_ ln pl os ou rd sp rw Y) 0 0 (.inl (some (.int (nI 1)), (RM P K Mo co dr sz al (up us p 1) (b4 by_ p (sb K sp h) 4) ln (up pl (56 * o + 7 * s + h) (p + 1)) os ou rd sp rw Y))) := by
    refine J.aload_n d_R_lay_23 rfl rfl ?_
    refine J.getfield d_R_lay_24 fl_R_26 rfl rfl ?_
    refine J.bipush d_R_lay_27 (v := nI 56) (by decide) ?_
    refine J.iload_n d_R_lay_29 rfl rfl ?_
    refine J.imulN d_R_lay_30 ?_
    refine J.bipush d_R_lay_31 (v := nI 7) (by decide) ?_
    refine J.iload_n d_R_lay_33 rfl rfl ?_
    refine J.imulN d_R_lay_34 ?_
    refine J.iaddN d_R_lay_35 ?_
    refine J.iload_n d_R_lay_36 rfl rfl ?_
    refine J.iaddN d_R_lay_37 ?_
    refine J.iload d_R_lay_38 rfl ?_
    refine J.iastoreP d_R_lay_40 rfl (by omega) (by omega) ?_
    rw [pI_succ]
    refine J.iconst d_R_lay_41 (v := nI 0) (by decide) ?_
    refine J.istore d_R_lay_42 (by decide) rfl ?_
    exact lp_R_lay (by omega) hK4 hS hh hsp 4 0 (by omega)
  rw [pI_succ] at key
  refine Con.of ?_
  refine J.aload_n d_R_lay_0 rfl rfl ?_
  refine J.iload_n d_R_lay_1 rfl rfl ?_
  refine J.iload_n d_R_lay_2 rfl rfl ?_
  refine J.v2i hc k_R_lay_R_slotFor d_R_lay_3 rfl rfl rfl ?_
  refine J.istore d_R_lay_6 (by decide) rfl ?_
  refine J.iload d_R_lay_8 rfl ?_
  refine J.if_geN d_R_lay_10 (tgt := 15) (by decide) (by omega) (fun _ => ?_)
  refine J.aload_n d_R_lay_15 rfl rfl ?_
  refine J.getfield d_R_lay_16 fl_R_17 rfl rfl ?_
  refine J.iload d_R_lay_19 rfl ?_
  refine J.iconst d_R_lay_21 (v := nI 1) (by decide) ?_
  refine J.bastoreN d_R_lay_22 rfl (by omega) (by omega) (by omega) ?_
  exact key
theorem con_R_lay0 {o s h : Nat} (ho : o < 6) (hs : s < 8) (hS : K + Mo ≤ 7) (hp : ∀ i, pl i ≤ 80) (h2 : ∀ i, us i < 2) (ha : ∀ i, al i < 2) (hg : gp al us pl o s (K + Mo) = 0) :
    Con l i_R_lay [.ref 15, .int (nI o), .int (nI s), .int (nI h)] (RM P K Mo co dr sz al us by_ ln pl os ou rd sp rw Y) (.inl (some (.int (nI 0)), (RM P K Mo co dr sz al us by_ ln pl os ou rd sp rw Y))) := by
  have hc := con_R_slotFor (l := l) (P := P) (K := K) (Mo := Mo) (co := co) (sz := sz) (os := os) (dr := dr) (by_ := by_) (ln := ln) (ou := ou) (rd := rd) (sp := sp) (rw := rw) (Y := Y) ho hs hS hp h2 ha
  rw [hg] at hc
  refine Con.of ?_
  refine J.aload_n d_R_lay_0 rfl rfl ?_
  refine J.iload_n d_R_lay_1 rfl rfl ?_
  refine J.iload_n d_R_lay_2 rfl rfl ?_
  refine J.v2i hc k_R_lay_R_slotFor d_R_lay_3 rfl rfl rfl ?_
  refine J.istore d_R_lay_6 (by decide) rfl ?_
  refine J.iload d_R_lay_8 rfl ?_
  refine J.if_geP d_R_lay_10 (tgt := 15) (by decide) (by decide) (fun q => absurd q (by decide)) (fun _ => ?_)
  refine J.iconst d_R_lay_13 (v := nI 0) (by decide) ?_
  first | exact J.zreturn d_R_lay_14 rfl rfl (by decide) (by decide) | exact J.zreturnN d_R_lay_14 rfl (by omega) (by decide) (by decide)
/-- an object's first n places given back -/
def clS (o : Nat) (x : U2) : Nat → U2
  | 0 => x
  | i + 1 => rl1 (56 * o + i) (clS o x i)
theorem clS_b {o : Nat} {x : U2} (h : (∀ i, x.2.1 i < 2) ∧ ∀ i, x.2.2 i ≤ 80) : ∀ n, (∀ i, (clS o x n).2.1 i < 2) ∧ ∀ i, (clS o x n).2.2 i ≤ 80
  | 0 => h
  | n + 1 => rl1_b (clS_b h n)
theorem clS_le (o : Nat) (x : U2) : ∀ n, (clS o x n).1 ≤ x.1 + n
  | 0 => Nat.le_refl _
  | n + 1 => by
    have h1 := rl1_le (56 * o + n) (clS o x n)
    have h2 := clS_le o x n
    show (rl1 _ _).1 ≤ _
    omega
theorem up_same {f : Nat → Nat} {i v : Nat} (h : f i = v) : up f i v = f := by
  funext j; unfold up; split
  · rename_i e; rw [e, h]
  · rfl
theorem lp_R_clear {o : Nat} {x : U2} (hx : (∀ i, x.2.1 i < 2) ∧ ∀ i, x.2.2 i ≤ 80) (h1 : x.1 = 0) (ho : o < 6) : ∀ (j i : Nat), i + j = 56 →
    J l i_R_clear 7 [(0, .ref 15), (1, .int (nI o)), (2, .int (nI (clS o x i).1)), (3, .int (nI (56 * o + i)))] [] (RM P K Mo co dr sz al ((clS o x i).2.1) by_ ln ((clS o x i).2.2) os ou rd sp rw Y) 0 0 (.inl (some (.int (nI (clS o x 56).1)), (RM P K Mo co dr sz al ((clS o x 56).2.1) by_ (up ln o 0) ((clS o x 56).2.2) os ou rd sp rw Y)))
  | 0, i, hi => by
    have hi' : i = 56 := by omega
    rw [hi']
    refine J.iload_n d_R_clear_7 rfl rfl ?_
    refine J.bipush d_R_clear_8 (v := nI 56) (by decide) ?_
    refine J.iload_n d_R_clear_10 rfl rfl ?_
    refine J.imulN d_R_clear_11 ?_
    refine J.bipush d_R_clear_12 (v := nI 56) (by decide) ?_
    refine J.iaddN d_R_clear_14 ?_
    refine J.icmp_geN d_R_clear_15 (tgt := 55) (by decide) (by omega) (by omega) (fun h => ?_) (fun h => ?_)
    · refine J.aload_n d_R_clear_55 rfl rfl ?_
      refine J.getfield d_R_clear_56 fl_R_23 rfl rfl ?_
      refine J.iload_n d_R_clear_59 rfl rfl ?_
      refine J.iconst d_R_clear_60 (v := nI 0) (by decide) ?_
      refine J.iastoreN d_R_clear_61 rfl (by omega) (by omega) ?_
      refine J.iload_n d_R_clear_62 rfl rfl ?_
      exact J.ireturn d_R_clear_63 rfl (by decide) (by decide)
    · omega
  | j + 1, i, hi => by
    have ih := lp_R_clear (o := o) hx h1 ho j (i + 1) (by omega)
    have hb := clS_b (o := o) hx i
    have hle := clS_le o x i
    have e : clS o x (i + 1) = rl1 (56 * o + i) (clS o x i) := rfl
    rw [e] at ih
    generalize clS o x i = y at hb hle ih ⊢
    have hpi := hb.2 (56 * o + i)
    refine J.iload_n d_R_clear_7 rfl rfl ?_
    refine J.bipush d_R_clear_8 (v := nI 56) (by decide) ?_
    refine J.iload_n d_R_clear_10 rfl rfl ?_
    refine J.imulN d_R_clear_11 ?_
    refine J.bipush d_R_clear_12 (v := nI 56) (by decide) ?_
    refine J.iaddN d_R_clear_14 ?_
    refine J.icmp_geN d_R_clear_15 (tgt := 55) (by decide) (by omega) (by omega) (fun h => ?_) (fun h => ?_)
    · omega
    refine J.aload_n d_R_clear_18 rfl rfl ?_
    refine J.getfield d_R_clear_19 fl_R_26 rfl rfl ?_
    refine J.iload_n d_R_clear_22 rfl rfl ?_
    refine J.ialoadP d_R_clear_23 rfl (by omega) (by omega) ?_
    refine J.if_ltP d_R_clear_24 (tgt := 42) (by decide) (by omega) (fun q => ?_) (fun q => ?_)
    · unfold rl1 at ih
      rw [if_pos q] at ih
      refine J.aload_n d_R_clear_42 rfl rfl ?_
      refine J.getfield d_R_clear_43 fl_R_26 rfl rfl ?_
      refine J.iload_n d_R_clear_46 rfl rfl ?_
      refine J.iconst d_R_clear_47 (v := pI 0) (by decide) ?_
      refine J.iastoreP d_R_clear_48 rfl (by omega) (by omega) ?_
      refine J.iincN d_R_clear_49 rfl rfl (by decide) rfl ?_
      refine J.goto d_R_clear_52 (tgt := 7) (by decide) ?_
      rw [up_same q]
      exact ih
    · obtain ⟨p, ep⟩ : ∃ p, y.2.2 (56 * o + i) = p + 1 := ⟨y.2.2 (56 * o + i) - 1, by omega⟩
      unfold rl1 at ih
      rw [if_neg (by omega), ep, Nat.add_sub_cancel] at ih
      refine J.aload_n d_R_clear_27 rfl rfl ?_
      refine J.getfield d_R_clear_28 fl_R_17 rfl rfl ?_
      refine J.aload_n d_R_clear_31 rfl rfl ?_
      refine J.getfield d_R_clear_32 fl_R_26 rfl rfl ?_
      refine J.iload_n d_R_clear_35 rfl rfl ?_
      refine J.ialoadP d_R_clear_36 rfl (by omega) (by omega) ?_
      rw [ep, pI_succ]
      refine J.iconst d_R_clear_37 (v := nI 0) (by decide) ?_
      refine J.bastoreN d_R_clear_38 rfl (by omega) (by omega) (by omega) ?_
      refine J.iincN d_R_clear_39 rfl rfl (by decide) rfl ?_
      refine J.aload_n d_R_clear_42 rfl rfl ?_
      refine J.getfield d_R_clear_43 fl_R_26 rfl rfl ?_
      refine J.iload_n d_R_clear_46 rfl rfl ?_
      refine J.iconst d_R_clear_47 (v := pI 0) (by decide) ?_
      refine J.iastoreP d_R_clear_48 rfl (by omega) (by omega) ?_
      refine J.iincN d_R_clear_49 rfl rfl (by decide) rfl ?_
      refine J.goto d_R_clear_52 (tgt := 7) (by decide) ?_
      exact ih
theorem con_R_clear {o : Nat} (h2 : ∀ i, us i < 2) (hp : ∀ i, pl i ≤ 80) (ho : o < 6) : Con l i_R_clear [.ref 15, .int (nI o)] (RM P K Mo co dr sz al us by_ ln pl os ou rd sp rw Y) (.inl (some (.int (nI (clS o (0, us, pl) 56).1)), (RM P K Mo co dr sz al ((clS o (0, us, pl) 56).2.1) by_ (up ln o 0) ((clS o (0, us, pl) 56).2.2) os ou rd sp rw Y))) := by
  refine Con.of ?_
  refine J.iconst d_R_clear_0 (v := nI 0) (by decide) ?_
  refine J.istore_n d_R_clear_1 rfl (by decide) rfl ?_
  refine J.bipush d_R_clear_2 (v := nI 56) (by decide) ?_
  refine J.iload_n d_R_clear_4 rfl rfl ?_
  refine J.imulN d_R_clear_5 ?_
  refine J.istore_n d_R_clear_6 rfl (by decide) rfl ?_
  exact lp_R_clear (x := (0, us, pl)) ⟨h2, hp⟩ rfl ho 56 0 (by omega)
end REFLAY
