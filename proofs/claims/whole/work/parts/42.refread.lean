/-! Reading a stripe: the reference's side -/
section REFREAD
variable {l : Launch} {P : Nat → va_E} {K Mo co sz os : Nat} {dr al us by_ ln pl ou rd sp rw : Nat → Nat} {Y : List va_E}
/-- a row's first n factors -/
def rwF (K : Nat) (rw : Nat → Nat) (k h : Nat) : Nat → Nat → Nat
  | 0 => rw
  | n + 1 => up (rwF K rw k h n) (5 * k + n) (fac K (h * K + n))
/-- the rows of the kept shards ahead of n, and how many -/
def wrS (K : Nat) (ls : Nat → Bool) (v : Nat → Nat) (rw : Nat → Nat) : Nat → Nat × (Nat → Nat)
  | 0 => (0, rw)
  | h + 1 => if (wrS K ls v rw h).1 < K ∧ ls h = false then ((wrS K ls v rw h).1 + 1, up (rwF K (wrS K ls v rw h).2 (wrS K ls v rw h).1 h K) (5 * (wrS K ls v rw h).1 + 4) (v h)) else wrS K ls v rw h
theorem wrS_le (K : Nat) (ls : Nat → Bool) (v : Nat → Nat) (rw : Nat → Nat) : ∀ n, (wrS K ls v rw n).1 ≤ K ∧ (wrS K ls v rw n).1 ≤ n
  | 0 => ⟨Nat.zero_le _, Nat.le_refl _⟩
  | n + 1 => by
    have := wrS_le K ls v rw n
    unfold wrS; split
    · rename_i h; exact ⟨h.1, by show _ + 1 ≤ _; omega⟩
    · exact ⟨this.1, by omega⟩
theorem wrS_full {K : Nat} {ls : Nat → Bool} {v rw : Nat → Nat} {n : Nat} (h : ¬ (wrS K ls v rw n).1 < K) : ∀ j, wrS K ls v rw (n + j) = wrS K ls v rw n
  | 0 => rfl
  | j + 1 => by
    have ih := wrS_full h j
    show (if (wrS K ls v rw (n + j)).1 < K ∧ _ then _ else wrS K ls v rw (n + j)) = _
    rw [if_neg (fun z => h (by rw [← ih]; exact z.1))]
    exact ih
theorem rwF_lt {K : Nat} {rw : Nat → Nat} {k h : Nat} (hr : ∀ i, rw i < 256) : ∀ n i, rwF K rw k h n i < 256
  | 0, i => hr i
  | n + 1, i => up_lt (rwF_lt hr n) (fac_lt K _) i
theorem wrS_lt {K : Nat} {ls : Nat → Bool} {v rw : Nat → Nat} (hr : ∀ i, rw i < 256) (hv : ∀ h, v h < 256) : ∀ n i, (wrS K ls v rw n).2 i < 256
  | 0, i => hr i
  | n + 1, i => by
    unfold wrS; split
    · exact up_lt (rwF_lt (wrS_lt hr hv n) K) (hv n) i
    · exact wrS_lt hr hv n i
theorem lp_R_wr1 {o s t k h : Nat} (ho : o < 6) (hs : s < 8) (hK4 : K ≤ 4) (hS : K + Mo ≤ 7) (hh : h < K + Mo) (hk : k < K) {out : Out}
    (kk : J l i_R_writeRows 73 [(0, .ref 15), (1, .int (nI o)), (2, .int (nI s)), (3, .int (nI t)), (4, .int (nI k)), (5, .int (nI h))] [] (RM P K Mo co dr sz al us by_ ln pl os ou rd sp (rwF K rw k h K) Y) 0 0 out) : ∀ (j i : Nat), i + j = K →
    J l i_R_writeRows 38 [(0, .ref 15), (1, .int (nI o)), (2, .int (nI s)), (3, .int (nI t)), (4, .int (nI k)), (5, .int (nI h)), (6, .int (nI i))] [] (RM P K Mo co dr sz al us by_ ln pl os ou rd sp (rwF K rw k h i) Y) 0 0 out
  | 0, i, hi => by
    have hi' : i = K := by omega
    rw [hi']
    refine J.iload d_R_writeRows_38 rfl ?_
    refine J.aload_n d_R_writeRows_40 rfl rfl ?_
    refine J.getfield d_R_writeRows_41 fl_R_44 rfl rfl ?_
    refine J.icmp_geN d_R_writeRows_44 (tgt := 73) (by decide) (by omega) (by omega) (fun hq => ?_) (fun hq => ?_)
    · exact J.sub [0, 1, 2, 3, 4, 5] kk
    · omega
  | j + 1, i, hi => by
    have ih := lp_R_wr1 ho hs hK4 hS hh hk kk j (i + 1) (by omega)
    refine J.iload d_R_writeRows_38 rfl ?_
    refine J.aload_n d_R_writeRows_40 rfl rfl ?_
    refine J.getfield d_R_writeRows_41 fl_R_44 rfl rfl ?_
    refine J.icmp_geN d_R_writeRows_44 (tgt := 73) (by decide) (by omega) (by omega) (fun hq => ?_) (fun hq => ?_)
    · omega
    refine J.aload_n d_R_writeRows_47 rfl rfl ?_
    refine J.getfield d_R_writeRows_48 fl_R_41 rfl rfl ?_
    refine J.iconst d_R_writeRows_51 (v := nI 5) (by decide) ?_
    refine J.iload d_R_writeRows_52 rfl ?_
    refine J.imulN d_R_writeRows_54 ?_
    refine J.iload d_R_writeRows_55 rfl ?_
    refine J.iaddN d_R_writeRows_57 ?_
    refine J.aload_n d_R_writeRows_58 rfl rfl ?_
    refine J.iload d_R_writeRows_59 rfl ?_
    refine J.iload d_R_writeRows_61 rfl ?_
    refine J.v2i (con_R_factor hh (by omega) hK4 hS) k_R_writeRows_R_factor d_R_writeRows_63 rfl rfl rfl ?_
    refine J.iastoreN d_R_writeRows_66 rfl (by omega) (by omega) ?_
    refine J.iincN d_R_writeRows_67 rfl rfl (by decide) rfl ?_
    refine J.goto d_R_writeRows_70 (tgt := 38) (by decide) ?_
    exact ih
theorem lp_R_wr {o s t : Nat} (ho : o < 6) (hs : s < 8) (ht : t < 4) (hK4 : K ≤ 4) (hS : K + Mo ≤ 7) (hp : ∀ i, pl i ≤ 80) : ∀ (j i : Nat), i + j = K + Mo →
    J l i_R_writeRows 6 [(0, .ref 15), (1, .int (nI o)), (2, .int (nI s)), (3, .int (nI t)), (4, .int (nI (wrS K (lsB pl o s) (fun h => vb pl by_ o s h t) rw i).1)), (5, .int (nI i))] [] (RM P K Mo co dr sz al us by_ ln pl os ou rd sp ((wrS K (lsB pl o s) (fun h => vb pl by_ o s h t) rw i).2) Y) 0 0 (.inl (none, (RM P K Mo co dr sz al us by_ ln pl os ou rd sp ((wrS K (lsB pl o s) (fun h => vb pl by_ o s h t) rw (K + Mo)).2) Y)))
  | 0, i, hi => by
    have hi' : i = K + Mo := by omega
    rw [hi']
    refine J.iload d_R_writeRows_6 rfl ?_
    refine J.aload_n d_R_writeRows_8 rfl rfl ?_
    refine J.v0i con_R_shards k_R_writeRows_R_shards d_R_writeRows_9 rfl rfl rfl ?_
    refine J.icmp_geN d_R_writeRows_12 (tgt := 110) (by decide) (by omega) (by omega) (fun hq => ?_) (fun hq => ?_)
    · exact J.vreturn d_R_writeRows_110 rfl (by decide) (by decide)
    · omega
  | j + 1, i, hi => by
    have hle := wrS_le K (lsB pl o s) (fun h => vb pl by_ o s h t) rw i
    have ih := lp_R_wr ho hs ht hK4 hS hp j (i + 1) (by omega)
    have hpi := hp (56 * o + 7 * s + i)
    refine J.iload d_R_writeRows_6 rfl ?_
    refine J.aload_n d_R_writeRows_8 rfl rfl ?_
    refine J.v0i con_R_shards k_R_writeRows_R_shards d_R_writeRows_9 rfl rfl rfl ?_
    refine J.icmp_geN d_R_writeRows_12 (tgt := 110) (by decide) (by omega) (by omega) (fun hq => ?_) (fun hq => ?_)
    · omega
    refine J.iload d_R_writeRows_15 rfl ?_
    refine J.aload_n d_R_writeRows_17 rfl rfl ?_
    refine J.getfield d_R_writeRows_18 fl_R_44 rfl rfl ?_
    refine J.icmp_geN d_R_writeRows_21 (tgt := 110) (by decide) (by omega) (by omega) (fun h2 => ?_) (fun h2 => ?_)
    · have e := wrS_full (ls := lsB pl o s) (v := fun h => vb pl by_ o s h t) (rw := rw) (K := K) (n := i) (by omega) (j + 1)
      rw [show i + (j + 1) = K + Mo by omega] at e
      rw [e]
      exact J.vreturn d_R_writeRows_110 rfl (by decide) (by decide)
    refine J.aload_n d_R_writeRows_24 rfl rfl ?_
    refine J.iload_n d_R_writeRows_25 rfl rfl ?_
    refine J.iload_n d_R_writeRows_26 rfl rfl ?_
    refine J.iload d_R_writeRows_27 rfl ?_
    rcases Nat.eq_zero_or_pos (pl (56 * o + 7 * s + i)) with h0 | h0
    · have e : wrS K (lsB pl o s) (fun h => vb pl by_ o s h t) rw (i + 1) = wrS K (lsB pl o s) (fun h => vb pl by_ o s h t) rw i := by
        show (if _ then _ else _) = _
        rw [if_neg (fun z => by have := z.2; simp [lsB, h0] at this)]
      rw [e] at ih
      refine J.v3i (con_R_place ho hs (by omega)) k_R_writeRows_R_place d_R_writeRows_29 rfl rfl rfl ?_
      refine J.if_ltP d_R_writeRows_32 (tgt := 104) (by decide) (by omega) (fun _ => ?_) (fun q => absurd h0 (by omega))
      refine J.iincN d_R_writeRows_104 rfl rfl (by decide) rfl ?_
      refine J.goto d_R_writeRows_107 (tgt := 6) (by decide) ?_
      exact ih
    · obtain ⟨p, ep⟩ : ∃ p, pl (56 * o + 7 * s + i) = p + 1 := ⟨pl (56 * o + 7 * s + i) - 1, by omega⟩
      have hc := fun (rw' : Nat → Nat) => con_R_place (l := l) (P := P) (K := K) (Mo := Mo) (co := co) (sz := sz) (os := os) (dr := dr) (al := al) (us := us) (by_ := by_) (ln := ln) (pl := pl) (ou := ou) (rd := rd) (sp := sp) (rw := rw') (Y := Y) ho hs (show i < 7 by omega)
      rw [ep, pI_succ] at hc
      have e : wrS K (lsB pl o s) (fun h => vb pl by_ o s h t) rw (i + 1) = ((wrS K (lsB pl o s) (fun h => vb pl by_ o s h t) rw i).1 + 1, up (rwF K (wrS K (lsB pl o s) (fun h => vb pl by_ o s h t) rw i).2 (wrS K (lsB pl o s) (fun h => vb pl by_ o s h t) rw i).1 i K) (5 * (wrS K (lsB pl o s) (fun h => vb pl by_ o s h t) rw i).1 + 4) (by_ (4 * p + t))) := by
        have ev : vb pl by_ o s i t = by_ (4 * p + t) := by unfold vb; rw [ep, Nat.add_sub_cancel]
        show (if _ then _ else _) = _
        rw [if_pos ⟨h2, by simp [lsB, ep]⟩]
        show (_, up _ _ (vb pl by_ o s i t)) = _
        rw [ev]
      rw [e] at ih
      refine J.v3i (hc _) k_R_writeRows_R_place d_R_writeRows_29 rfl rfl rfl ?_
      refine J.if_ltN d_R_writeRows_32 (tgt := 104) (by decide) (by omega) (fun _ => ?_)
      refine J.iconst d_R_writeRows_35 (v := nI 0) (by decide) ?_
      refine J.istore d_R_writeRows_36 (by decide) rfl ?_
      refine lp_R_wr1 ho hs hK4 hS (by omega) h2 ?_ K 0 (by omega)
      refine J.aload_n d_R_writeRows_73 rfl rfl ?_
      refine J.getfield d_R_writeRows_74 fl_R_41 rfl rfl ?_
      refine J.iconst d_R_writeRows_77 (v := nI 5) (by decide) ?_
      refine J.iload d_R_writeRows_78 rfl ?_
      refine J.imulN d_R_writeRows_80 ?_
      refine J.iconst d_R_writeRows_81 (v := nI 4) (by decide) ?_
      refine J.iaddN d_R_writeRows_82 ?_
      refine J.aload_n d_R_writeRows_83 rfl rfl ?_
      refine J.getfield d_R_writeRows_84 fl_R_20 rfl rfl ?_
      refine J.iconst d_R_writeRows_87 (v := nI 4) (by decide) ?_
      refine J.aload_n d_R_writeRows_88 rfl rfl ?_
      refine J.iload_n d_R_writeRows_89 rfl rfl ?_
      refine J.iload_n d_R_writeRows_90 rfl rfl ?_
      refine J.iload d_R_writeRows_91 rfl ?_
      refine J.v3i (hc _) k_R_writeRows_R_place d_R_writeRows_93 rfl rfl rfl ?_
      refine J.imulN d_R_writeRows_96 ?_
      refine J.iload_n d_R_writeRows_97 rfl rfl ?_
      refine J.iaddN d_R_writeRows_98 ?_
      refine J.ialoadN d_R_writeRows_99 rfl (by omega) (by omega) ?_
      refine J.iastoreN d_R_writeRows_100 rfl (by omega) (by omega) ?_
      refine J.iincN d_R_writeRows_101 rfl rfl (by decide) rfl ?_
      refine J.iincN d_R_writeRows_104 rfl rfl (by decide) rfl ?_
      refine J.goto d_R_writeRows_107 (tgt := 6) (by decide) ?_
      exact ih
theorem con_R_writeRows {o s t : Nat} (ho : o < 6) (hs : s < 8) (ht : t < 4) (hK4 : K ≤ 4) (hS : K + Mo ≤ 7) (hp : ∀ i, pl i ≤ 80) : Con l i_R_writeRows [.ref 15, .int (nI o), .int (nI s), .int (nI t)] (RM P K Mo co dr sz al us by_ ln pl os ou rd sp rw Y) (.inl (none, (RM P K Mo co dr sz al us by_ ln pl os ou rd sp ((wrS K (lsB pl o s) (fun h => vb pl by_ o s h t) rw (K + Mo)).2) Y))) := by
  refine Con.of ?_
  refine J.iconst d_R_writeRows_0 (v := nI 0) (by decide) ?_
  refine J.istore d_R_writeRows_1 (by decide) rfl ?_
  refine J.iconst d_R_writeRows_3 (v := nI 0) (by decide) ?_
  refine J.istore d_R_writeRows_4 (by decide) rfl ?_
  exact lp_R_wr ho hs ht hK4 hS hp (K + Mo) 0 (by omega)
/-- the first row from p on that has something in column c -/
def fp (rw : Nat → Nat) (c : Nat) : Nat → Nat → Nat
  | 0, p => p
  | n + 1, p => if rw (5 * p + c) = 0 then fp rw c n (p + 1) else p
theorem fp_ge (rw : Nat → Nat) (c : Nat) : ∀ n p, p ≤ fp rw c n p
  | 0, p => Nat.le_refl _
  | n + 1, p => by
    unfold fp; split
    · have := fp_ge rw c n (p + 1); omega
    · exact Nat.le_refl _
/-- rows p and c exchanged, f times the one that comes to c: the first n columns -/
def swJ (rw : Nat → Nat) (f p c : Nat) : Nat → Nat → Nat
  | 0 => rw
  | j + 1 => up (up (swJ rw f p c j) (5 * p + j) (swJ rw f p c j (5 * c + j))) (5 * c + j) (gm f (swJ rw f p c j (5 * p + j)))
/-- g times row c added to row k: the first n columns -/
def elJ (rw : Nat → Nat) (k g c : Nat) : Nat → Nat → Nat
  | 0 => rw
  | j + 1 => up (elJ rw k g c j) (5 * k + j) (elJ rw k g c j (5 * k + j) ^^^ gm g (elJ rw k g c j (5 * c + j)))
def elK (rw : Nat → Nat) (c : Nat) : Nat → Nat → Nat
  | 0 => rw
  | k + 1 => elJ (elK rw c k) k (if k = c then 0 else elK rw c k (5 * k + c)) c 5
/-- the columns ahead of n solved -/
def svS (K : Nat) (rw : Nat → Nat) : Nat → Nat → Nat
  | 0 => rw
  | c + 1 => elK (swJ (svS K rw c) (gi (svS K rw c (5 * fp (svS K rw c) c 4 c + c))) (fp (svS K rw c) c 4 c) c 5) c K
/-- every column finds its row -/
def svOk (K : Nat) (rw : Nat → Nat) : Prop := ∀ c, c < K → fp (svS K rw c) c 4 c < K ∧ svS K rw c (5 * fp (svS K rw c) c 4 c + c) ≠ 0
theorem swJ_lt {rw : Nat → Nat} {f p c : Nat} (hr : ∀ i, rw i < 256) (hf : f < 256) : ∀ n i, swJ rw f p c n i < 256
  | 0, i => hr i
  | n + 1, i => up_lt (up_lt (swJ_lt hr hf n) (swJ_lt hr hf n _)) (gm_lt hf) i
theorem elJ_lt {rw : Nat → Nat} {k g c : Nat} (hr : ∀ i, rw i < 256) (hg : g < 256) : ∀ n i, elJ rw k g c n i < 256
  | 0, i => hr i
  | n + 1, i => up_lt (elJ_lt hr hg n) (xor_lt (elJ_lt hr hg n _) (gm_lt hg)) i
theorem elK_lt {rw : Nat → Nat} {c : Nat} (hr : ∀ i, rw i < 256) : ∀ n i, elK rw c n i < 256
  | 0, i => hr i
  | n + 1, i => elJ_lt (elK_lt hr n) (by split; decide; exact elK_lt hr n _) 5 i
theorem svS_lt {K : Nat} {rw : Nat → Nat} (hr : ∀ i, rw i < 256) : ∀ n i, svS K rw n i < 256
  | 0, i => hr i
  | n + 1, i => elK_lt (swJ_lt (svS_lt hr n) (gi_lt _) 5) K i
theorem lp_R_piv {c q : Nat} (hc : c < K) (hK4 : K ≤ 4) (hr : ∀ i, rw i < 256) (hq : q < K) (hz : rw (5 * q + c) ≠ 0) {out : Out}
    (kk : J l i_R_solve 31 [(0, .ref 15), (1, .int (nI c)), (2, .int (nI q))] [] (RM P K Mo co dr sz al us by_ ln pl os ou rd sp rw Y) 0 0 out) : ∀ (n p : Nat), fp rw c n p = q → p ≤ q →
    J l i_R_solve 12 [(0, .ref 15), (1, .int (nI c)), (2, .int (nI p))] [] (RM P K Mo co dr sz al us by_ ln pl os ou rd sp rw Y) 0 0 out
  | 0, p, hf, hp => by
    have hf' : p = q := hf
    rw [hf']
    have hrq := hr (5 * q + c)
    refine J.aload_n d_R_solve_12 rfl rfl ?_
    refine J.getfield d_R_solve_13 fl_R_41 rfl rfl ?_
    refine J.iconst d_R_solve_16 (v := nI 5) (by decide) ?_
    refine J.iload_n d_R_solve_17 rfl rfl ?_
    refine J.imulN d_R_solve_18 ?_
    refine J.iload_n d_R_solve_19 rfl rfl ?_
    refine J.iaddN d_R_solve_20 ?_
    refine J.ialoadN d_R_solve_21 rfl (by omega) (by omega) ?_
    refine J.if_neN d_R_solve_22 (tgt := 31) (by decide) (by omega) (fun h => ?_) (fun h => ?_)
    · exact kk
    · exact absurd h hz
  | n + 1, p, hf, hp => by
    have hrp := hr (5 * p + c)
    unfold fp at hf
    refine J.aload_n d_R_solve_12 rfl rfl ?_
    refine J.getfield d_R_solve_13 fl_R_41 rfl rfl ?_
    refine J.iconst d_R_solve_16 (v := nI 5) (by decide) ?_
    refine J.iload_n d_R_solve_17 rfl rfl ?_
    refine J.imulN d_R_solve_18 ?_
    refine J.iload_n d_R_solve_19 rfl rfl ?_
    refine J.iaddN d_R_solve_20 ?_
    refine J.ialoadN d_R_solve_21 rfl (by omega) (by omega) ?_
    refine J.if_neN d_R_solve_22 (tgt := 31) (by decide) (by omega) (fun h => ?_) (fun h => ?_)
    · rw [if_neg h] at hf
      rw [hf]
      exact kk
    · rw [if_pos h] at hf
      have := fp_ge rw c n (p + 1)
      refine J.iincN d_R_solve_25 rfl rfl (by decide) rfl ?_
      refine J.goto d_R_solve_28 (tgt := 12) (by decide) ?_
      exact lp_R_piv hc hK4 hr hq hz kk n (p + 1) hf (by omega)
theorem lp_R_sw {c p f : Nat} (hc : c < K) (hK4 : K ≤ 4) (hp : p < K) (hf : f < 256) (hr : ∀ i, rw i < 256) {out : Out}
    (kk : J l i_R_solve 112 [(0, .ref 15), (1, .int (nI c))] [] (RM P K Mo co dr sz al us by_ ln pl os ou rd sp (swJ rw f p c 5) Y) 0 0 out) : ∀ (j i : Nat), i + j = 5 → ∀ lv, lv = [(0, Value.ref 15), (1, .int (nI c)), (2, .int (nI p)), (3, .int (nI f)), (4, .int (nI i))] ∨ (∃ x, lv = [(0, Value.ref 15), (1, .int (nI c)), (2, .int (nI p)), (3, .int (nI f)), (4, .int (nI i)), (5, .int (nI x))]) →
    J l i_R_solve 48 lv [] (RM P K Mo co dr sz al us by_ ln pl os ou rd sp (swJ rw f p c i) Y) 0 0 out
  | 0, i, hi, lv, hlv => by
    have hi' : i = 5 := by omega
    rw [hi'] at hlv ⊢
    rcases hlv with rfl | ⟨x, rfl⟩
    · refine J.iload d_R_solve_48 rfl ?_
      refine J.iconst d_R_solve_50 (v := nI 5) (by decide) ?_
      refine J.icmp_geN d_R_solve_51 (tgt := 112) (by decide) (by omega) (by omega) (fun h => ?_) (fun h => ?_)
      · exact J.sub [0, 1] kk
      · omega
    · refine J.iload d_R_solve_48 rfl ?_
      refine J.iconst d_R_solve_50 (v := nI 5) (by decide) ?_
      refine J.icmp_geN d_R_solve_51 (tgt := 112) (by decide) (by omega) (by omega) (fun h => ?_) (fun h => ?_)
      · exact J.sub [0, 1] kk
      · omega
  | j + 1, i, hi, lv, hlv => by
    have ih := lp_R_sw hc hK4 hp hf hr kk j (i + 1) (by omega) _ (Or.inr ⟨gm f (swJ rw f p c i (5 * p + i)), rfl⟩)
    have hl := swJ_lt (p := p) (c := c) hr hf i (5 * p + i)
    rcases hlv with rfl | ⟨x, rfl⟩
    · refine J.iload d_R_solve_48 rfl ?_
      refine J.iconst d_R_solve_50 (v := nI 5) (by decide) ?_
      refine J.icmp_geN d_R_solve_51 (tgt := 112) (by decide) (by omega) (by omega) (fun h => ?_) (fun h => ?_)
      · omega
      refine J.iload_n d_R_solve_54 rfl rfl ?_
      refine J.aload_n d_R_solve_55 rfl rfl ?_
      refine J.getfield d_R_solve_56 fl_R_41 rfl rfl ?_
      refine J.iconst d_R_solve_59 (v := nI 5) (by decide) ?_
      refine J.iload_n d_R_solve_60 rfl rfl ?_
      refine J.imulN d_R_solve_61 ?_
      refine J.iload d_R_solve_62 rfl ?_
      refine J.iaddN d_R_solve_64 ?_
      refine J.ialoadN d_R_solve_65 rfl (by omega) (by omega) ?_
      refine J.s2i (con_R_times hf hl _) k_R_solve_R_times d_R_solve_66 rfl ?_
      refine J.istore d_R_solve_69 (by decide) rfl ?_
      refine J.aload_n d_R_solve_71 rfl rfl ?_
      refine J.getfield d_R_solve_72 fl_R_41 rfl rfl ?_
      refine J.iconst d_R_solve_75 (v := nI 5) (by decide) ?_
      refine J.iload_n d_R_solve_76 rfl rfl ?_
      refine J.imulN d_R_solve_77 ?_
      refine J.iload d_R_solve_78 rfl ?_
      refine J.iaddN d_R_solve_80 ?_
      refine J.aload_n d_R_solve_81 rfl rfl ?_
      refine J.getfield d_R_solve_82 fl_R_41 rfl rfl ?_
      refine J.iconst d_R_solve_85 (v := nI 5) (by decide) ?_
      refine J.iload_n d_R_solve_86 rfl rfl ?_
      refine J.imulN d_R_solve_87 ?_
      refine J.iload d_R_solve_88 rfl ?_
      refine J.iaddN d_R_solve_90 ?_
      refine J.ialoadN d_R_solve_91 rfl (by omega) (by omega) ?_
      refine J.iastoreN d_R_solve_92 rfl (by omega) (by omega) ?_
      refine J.aload_n d_R_solve_93 rfl rfl ?_
      refine J.getfield d_R_solve_94 fl_R_41 rfl rfl ?_
      refine J.iconst d_R_solve_97 (v := nI 5) (by decide) ?_
      refine J.iload_n d_R_solve_98 rfl rfl ?_
      refine J.imulN d_R_solve_99 ?_
      refine J.iload d_R_solve_100 rfl ?_
      refine J.iaddN d_R_solve_102 ?_
      refine J.iload d_R_solve_103 rfl ?_
      refine J.iastoreN d_R_solve_105 rfl (by omega) (by omega) ?_
      refine J.iincN d_R_solve_106 rfl rfl (by decide) rfl ?_
      refine J.goto d_R_solve_109 (tgt := 48) (by decide) ?_
      exact ih
    · refine J.iload d_R_solve_48 rfl ?_
      refine J.iconst d_R_solve_50 (v := nI 5) (by decide) ?_
      refine J.icmp_geN d_R_solve_51 (tgt := 112) (by decide) (by omega) (by omega) (fun h => ?_) (fun h => ?_)
      · omega
      refine J.iload_n d_R_solve_54 rfl rfl ?_
      refine J.aload_n d_R_solve_55 rfl rfl ?_
      refine J.getfield d_R_solve_56 fl_R_41 rfl rfl ?_
      refine J.iconst d_R_solve_59 (v := nI 5) (by decide) ?_
      refine J.iload_n d_R_solve_60 rfl rfl ?_
      refine J.imulN d_R_solve_61 ?_
      refine J.iload d_R_solve_62 rfl ?_
      refine J.iaddN d_R_solve_64 ?_
      refine J.ialoadN d_R_solve_65 rfl (by omega) (by omega) ?_
      refine J.s2i (con_R_times hf hl _) k_R_solve_R_times d_R_solve_66 rfl ?_
      refine J.istore d_R_solve_69 (by decide) rfl ?_
      refine J.aload_n d_R_solve_71 rfl rfl ?_
      refine J.getfield d_R_solve_72 fl_R_41 rfl rfl ?_
      refine J.iconst d_R_solve_75 (v := nI 5) (by decide) ?_
      refine J.iload_n d_R_solve_76 rfl rfl ?_
      refine J.imulN d_R_solve_77 ?_
      refine J.iload d_R_solve_78 rfl ?_
      refine J.iaddN d_R_solve_80 ?_
      refine J.aload_n d_R_solve_81 rfl rfl ?_
      refine J.getfield d_R_solve_82 fl_R_41 rfl rfl ?_
      refine J.iconst d_R_solve_85 (v := nI 5) (by decide) ?_
      refine J.iload_n d_R_solve_86 rfl rfl ?_
      refine J.imulN d_R_solve_87 ?_
      refine J.iload d_R_solve_88 rfl ?_
      refine J.iaddN d_R_solve_90 ?_
      refine J.ialoadN d_R_solve_91 rfl (by omega) (by omega) ?_
      refine J.iastoreN d_R_solve_92 rfl (by omega) (by omega) ?_
      refine J.aload_n d_R_solve_93 rfl rfl ?_
      refine J.getfield d_R_solve_94 fl_R_41 rfl rfl ?_
      refine J.iconst d_R_solve_97 (v := nI 5) (by decide) ?_
      refine J.iload_n d_R_solve_98 rfl rfl ?_
      refine J.imulN d_R_solve_99 ?_
      refine J.iload d_R_solve_100 rfl ?_
      refine J.iaddN d_R_solve_102 ?_
      refine J.iload d_R_solve_103 rfl ?_
      refine J.iastoreN d_R_solve_105 rfl (by omega) (by omega) ?_
      refine J.iincN d_R_solve_106 rfl rfl (by decide) rfl ?_
      refine J.goto d_R_solve_109 (tgt := 48) (by decide) ?_
      exact ih
theorem lp_R_elJ {c k g : Nat} (hc : c < K) (hK4 : K ≤ 4) (hk : k < K) (hg : g < 256) (hr : ∀ i, rw i < 256) {out : Out}
    (kk : J l i_R_solve 203 [(0, .ref 15), (1, .int (nI c)), (4, .int (nI k))] [] (RM P K Mo co dr sz al us by_ ln pl os ou rd sp (elJ rw k g c 5) Y) 0 0 out) : ∀ (j i : Nat), i + j = 5 →
    J l i_R_solve 150 [(0, .ref 15), (1, .int (nI c)), (4, .int (nI k)), (5, .int (nI g)), (6, .int (nI i))] [] (RM P K Mo co dr sz al us by_ ln pl os ou rd sp (elJ rw k g c i) Y) 0 0 out
  | 0, i, hi => by
    have hi' : i = 5 := by omega
    rw [hi']
    refine J.iload d_R_solve_150 rfl ?_
    refine J.iconst d_R_solve_152 (v := nI 5) (by decide) ?_
    refine J.icmp_geN d_R_solve_153 (tgt := 203) (by decide) (by omega) (by omega) (fun h => ?_) (fun h => ?_)
    · exact J.sub [0, 1, 2] kk
    · omega
  | j + 1, i, hi => by
    have ih := lp_R_elJ hc hK4 hk hg hr kk j (i + 1) (by omega)
    have hl := elJ_lt (k := k) (c := c) hr hg i (5 * c + i)
    refine J.iload d_R_solve_150 rfl ?_
    refine J.iconst d_R_solve_152 (v := nI 5) (by decide) ?_
    refine J.icmp_geN d_R_solve_153 (tgt := 203) (by decide) (by omega) (by omega) (fun h => ?_) (fun h => ?_)
    · omega
    refine J.aload_n d_R_solve_156 rfl rfl ?_
    refine J.getfield d_R_solve_157 fl_R_41 rfl rfl ?_
    refine J.iconst d_R_solve_160 (v := nI 5) (by decide) ?_
    refine J.iload d_R_solve_161 rfl ?_
    refine J.imulN d_R_solve_163 ?_
    refine J.iload d_R_solve_164 rfl ?_
    refine J.iaddN d_R_solve_166 ?_
    refine J.aload_n d_R_solve_167 rfl rfl ?_
    refine J.getfield d_R_solve_168 fl_R_41 rfl rfl ?_
    refine J.iconst d_R_solve_171 (v := nI 5) (by decide) ?_
    refine J.iload d_R_solve_172 rfl ?_
    refine J.imulN d_R_solve_174 ?_
    refine J.iload d_R_solve_175 rfl ?_
    refine J.iaddN d_R_solve_177 ?_
    refine J.ialoadN d_R_solve_178 rfl (by omega) (by omega) ?_
    refine J.iload d_R_solve_179 rfl ?_
    refine J.aload_n d_R_solve_181 rfl rfl ?_
    refine J.getfield d_R_solve_182 fl_R_41 rfl rfl ?_
    refine J.iconst d_R_solve_185 (v := nI 5) (by decide) ?_
    refine J.iload_n d_R_solve_186 rfl rfl ?_
    refine J.imulN d_R_solve_187 ?_
    refine J.iload d_R_solve_188 rfl ?_
    refine J.iaddN d_R_solve_190 ?_
    refine J.ialoadN d_R_solve_191 rfl (by omega) (by omega) ?_
    refine J.s2i (con_R_times hg hl _) k_R_solve_R_times d_R_solve_192 rfl ?_
    refine J.ixorN d_R_solve_195 ?_
    refine J.iastoreN d_R_solve_196 rfl (by omega) (by omega) ?_
    refine J.iincN d_R_solve_197 rfl rfl (by decide) rfl ?_
    refine J.goto d_R_solve_200 (tgt := 150) (by decide) ?_
    exact ih
theorem lp_R_elK {c : Nat} (hc : c < K) (hK4 : K ≤ 4) (hr : ∀ i, rw i < 256) {out : Out}
    (kk : J l i_R_solve 209 [(0, .ref 15), (1, .int (nI c))] [] (RM P K Mo co dr sz al us by_ ln pl os ou rd sp (elK rw c K) Y) 0 0 out) : ∀ (j i : Nat), i + j = K →
    J l i_R_solve 115 [(0, .ref 15), (1, .int (nI c)), (4, .int (nI i))] [] (RM P K Mo co dr sz al us by_ ln pl os ou rd sp (elK rw c i) Y) 0 0 out
  | 0, i, hi => by
    have hi' : i = K := by omega
    rw [hi']
    refine J.iload d_R_solve_115 rfl ?_
    refine J.aload_n d_R_solve_117 rfl rfl ?_
    refine J.getfield d_R_solve_118 fl_R_44 rfl rfl ?_
    refine J.icmp_geN d_R_solve_121 (tgt := 209) (by decide) (by omega) (by omega) (fun h => ?_) (fun h => ?_)
    · exact J.sub [0, 1] kk
    · omega
  | j + 1, i, hi => by
    have ih := lp_R_elK hc hK4 hr kk j (i + 1) (by omega)
    have hl := elK_lt (c := c) hr i
    have hl2 := hl (5 * i + c)
    refine J.iload d_R_solve_115 rfl ?_
    refine J.aload_n d_R_solve_117 rfl rfl ?_
    refine J.getfield d_R_solve_118 fl_R_44 rfl rfl ?_
    refine J.icmp_geN d_R_solve_121 (tgt := 209) (by decide) (by omega) (by omega) (fun h => ?_) (fun h => ?_)
    · omega
    refine J.iload d_R_solve_124 rfl ?_
    refine J.iload_n d_R_solve_126 rfl rfl ?_
    refine J.icmp_neN d_R_solve_127 (tgt := 134) (by decide) (by omega) (by omega) (fun h2 => ?_) (fun h2 => ?_)
    · refine J.aload_n d_R_solve_134 rfl rfl ?_
      refine J.getfield d_R_solve_135 fl_R_41 rfl rfl ?_
      refine J.iconst d_R_solve_138 (v := nI 5) (by decide) ?_
      refine J.iload d_R_solve_139 rfl ?_
      refine J.imulN d_R_solve_141 ?_
      refine J.iload_n d_R_solve_142 rfl rfl ?_
      refine J.iaddN d_R_solve_143 ?_
      refine J.ialoadN d_R_solve_144 rfl (by omega) (by omega) ?_
      refine J.istore d_R_solve_145 (by decide) rfl ?_
      refine J.iconst d_R_solve_147 (v := nI 0) (by decide) ?_
      refine J.istore d_R_solve_148 (by decide) rfl ?_
      have e : elK rw c (i + 1) = elJ (elK rw c i) i (elK rw c i (5 * i + c)) c 5 := by
        show elJ _ _ (if _ then _ else _) _ _ = _
        rw [if_neg h2]
      rw [e] at ih
      refine lp_R_elJ hc hK4 (by omega) hl2 hl ?_ 5 0 (by omega)
      refine J.iincN d_R_solve_203 rfl rfl (by decide) rfl ?_
      refine J.goto d_R_solve_206 (tgt := 115) (by decide) ?_
      exact ih
    · refine J.iconst d_R_solve_130 (v := nI 0) (by decide) ?_
      refine J.goto d_R_solve_131 (tgt := 145) (by decide) ?_
      refine J.istore d_R_solve_145 (by decide) rfl ?_
      refine J.iconst d_R_solve_147 (v := nI 0) (by decide) ?_
      refine J.istore d_R_solve_148 (by decide) rfl ?_
      have e : elK rw c (i + 1) = elJ (elK rw c i) i 0 c 5 := by
        show elJ _ _ (if _ then _ else _) _ _ = _
        rw [if_pos h2]
      rw [e] at ih
      refine lp_R_elJ hc hK4 (by omega) (by omega) hl ?_ 5 0 (by omega)
      refine J.iincN d_R_solve_203 rfl rfl (by decide) rfl ?_
      refine J.goto d_R_solve_206 (tgt := 115) (by decide) ?_
      exact ih
theorem lp_R_sol (hK4 : K ≤ 4) (hr : ∀ i, rw i < 256) (hok : svOk K rw) : ∀ (j i : Nat), i + j = K →
    J l i_R_solve 2 [(0, .ref 15), (1, .int (nI i))] [] (RM P K Mo co dr sz al us by_ ln pl os ou rd sp (svS K rw i) Y) 0 0 (.inl (none, (RM P K Mo co dr sz al us by_ ln pl os ou rd sp (svS K rw K) Y)))
  | 0, i, hi => by
    have hi' : i = K := by omega
    rw [hi']
    refine J.iload_n d_R_solve_2 rfl rfl ?_
    refine J.aload_n d_R_solve_3 rfl rfl ?_
    refine J.getfield d_R_solve_4 fl_R_44 rfl rfl ?_
    refine J.icmp_geN d_R_solve_7 (tgt := 215) (by decide) (by omega) (by omega) (fun h => ?_) (fun h => ?_)
    · exact J.vreturn d_R_solve_215 rfl (by decide) (by decide)
    · omega
  | j + 1, i, hi => by
    have ih := lp_R_sol hK4 hr hok j (i + 1) (by omega)
    have hl := svS_lt (K := K) hr i
    obtain ⟨o1, o2⟩ := hok i (by omega)
    have e : svS K rw (i + 1) = elK (swJ (svS K rw i) (gi (svS K rw i (5 * fp (svS K rw i) i 4 i + i))) (fp (svS K rw i) i 4 i) i 5) i K := rfl
    rw [e] at ih
    have hge := fp_ge (svS K rw i) i 4 i
    generalize hq : fp (svS K rw i) i 4 i = q at o1 o2 ih hge
    generalize svS K rw i = w at hl o2 ih hq ⊢
    have hwq := hl (5 * q + i)
    refine J.iload_n d_R_solve_2 rfl rfl ?_
    refine J.aload_n d_R_solve_3 rfl rfl ?_
    refine J.getfield d_R_solve_4 fl_R_44 rfl rfl ?_
    refine J.icmp_geN d_R_solve_7 (tgt := 215) (by decide) (by omega) (by omega) (fun h => ?_) (fun h => ?_)
    · omega
    refine J.iload_n d_R_solve_10 rfl rfl ?_
    refine J.istore_n d_R_solve_11 rfl (by decide) rfl ?_
    refine lp_R_piv (by omega) hK4 hl o1 o2 ?_ 4 i hq hge
    refine J.aload_n d_R_solve_31 rfl rfl ?_
    refine J.getfield d_R_solve_32 fl_R_41 rfl rfl ?_
    refine J.iconst d_R_solve_35 (v := nI 5) (by decide) ?_
    refine J.iload_n d_R_solve_36 rfl rfl ?_
    refine J.imulN d_R_solve_37 ?_
    refine J.iload_n d_R_solve_38 rfl rfl ?_
    refine J.iaddN d_R_solve_39 ?_
    refine J.ialoadN d_R_solve_40 rfl (by omega) (by omega) ?_
    refine J.s1i (con_R_inverse (by omega) hwq _) k_R_solve_R_inverse d_R_solve_41 rfl ?_
    refine J.istore_n d_R_solve_44 rfl (by decide) rfl ?_
    refine J.iconst d_R_solve_45 (v := nI 0) (by decide) ?_
    refine J.istore d_R_solve_46 (by decide) rfl ?_
    refine lp_R_sw (by omega) hK4 o1 (gi_lt _) hl ?_ 5 0 (by omega) _ (Or.inl rfl)
    refine J.iconst d_R_solve_112 (v := nI 0) (by decide) ?_
    refine J.istore d_R_solve_113 (by decide) rfl ?_
    refine lp_R_elK (by omega) hK4 (swJ_lt hl (gi_lt _) 5) ?_ K 0 (by omega)
    refine J.iincN d_R_solve_209 rfl rfl (by decide) rfl ?_
    refine J.goto d_R_solve_212 (tgt := 2) (by decide) ?_
    exact ih
theorem con_R_solve (hK4 : K ≤ 4) (hr : ∀ i, rw i < 256) (hok : svOk K rw) : Con l i_R_solve [.ref 15] (RM P K Mo co dr sz al us by_ ln pl os ou rd sp rw Y) (.inl (none, (RM P K Mo co dr sz al us by_ ln pl os ou rd sp (svS K rw K) Y))) := by
  refine Con.of ?_
  refine J.iconst d_R_solve_0 (v := nI 0) (by decide) ?_
  refine J.istore_n d_R_solve_1 rfl (by decide) rfl ?_
  exact lp_R_sol hK4 hr hok K 0 (by omega)
/-- byte t of the first n data taken out of the rows -/
def stj (sp r : Nat → Nat) (t : Nat) : Nat → Nat → Nat
  | 0 => sp
  | j + 1 => up (stj sp r t j) (4 * j + t) (r (5 * j + 4))
/-- the rows as they are written for byte t -/
def wrT (K Sh : Nat) (ls : Nat → Bool) (v : Nat → Nat → Nat) (rw : Nat → Nat) (t : Nat) : Nat → Nat := (wrS K ls (fun h => v h t) rw Sh).2
/-- the bytes ahead of n read: rows, stripe -/
def rdR (K Sh : Nat) (ls : Nat → Bool) (v : Nat → Nat → Nat) (x : ED) : Nat → ED
  | 0 => x
  | t + 1 => (svS K (wrT K Sh ls v (rdR K Sh ls v x t).1 t) K, stj (rdR K Sh ls v x t).2 (svS K (wrT K Sh ls v (rdR K Sh ls v x t).1 t) K) t K)
theorem stj_lt {sp r : Nat → Nat} {t : Nat} (hs : ∀ i, sp i < 256) (hr : ∀ i, r i < 256) : ∀ n i, stj sp r t n i < 256
  | 0, i => hs i
  | n + 1, i => up_lt (stj_lt hs hr n) (hr _) i
theorem rdR_b {K Sh : Nat} {ls : Nat → Bool} {v : Nat → Nat → Nat} {x : ED} (hx : b256 x) (hv : ∀ h t, v h t < 256) : ∀ n, b256 (rdR K Sh ls v x n)
  | 0 => hx
  | n + 1 => by
    have ih := rdR_b (K := K) (Sh := Sh) (ls := ls) hx hv n
    have h1 := svS_lt (K := K) (rw := wrT K Sh ls v (rdR K Sh ls v x n).1 n) (wrS_lt ih.1 (fun h => hv h n) Sh) K
    exact ⟨h1, stj_lt ih.2 h1 K⟩
theorem lp_R_st {o s t : Nat} (ht : t < 4) (hK4 : K ≤ 4) {out : Out}
    (kk : J l i_R_readStripe 58 [(0, .ref 15), (1, .int (nI o)), (2, .int (nI s)), (3, .int (nI t))] [] (RM P K Mo co dr sz al us by_ ln pl os ou rd (stj sp rw t K) rw Y) 0 0 out) : ∀ (j i : Nat), i + j = K →
    J l i_R_readStripe 21 [(0, .ref 15), (1, .int (nI o)), (2, .int (nI s)), (3, .int (nI t)), (4, .int (nI i))] [] (RM P K Mo co dr sz al us by_ ln pl os ou rd (stj sp rw t i) rw Y) 0 0 out
  | 0, i, hi => by
    have hi' : i = K := by omega
    rw [hi']
    refine J.iload d_R_readStripe_21 rfl ?_
    refine J.aload_n d_R_readStripe_23 rfl rfl ?_
    refine J.getfield d_R_readStripe_24 fl_R_44 rfl rfl ?_
    refine J.icmp_geN d_R_readStripe_27 (tgt := 58) (by decide) (by omega) (by omega) (fun h => ?_) (fun h => ?_)
    · exact J.sub [0, 1, 2, 3] kk
    · omega
  | j + 1, i, hi => by
    have ih := lp_R_st (o := o) (s := s) ht hK4 kk j (i + 1) (by omega)
    refine J.iload d_R_readStripe_21 rfl ?_
    refine J.aload_n d_R_readStripe_23 rfl rfl ?_
    refine J.getfield d_R_readStripe_24 fl_R_44 rfl rfl ?_
    refine J.icmp_geN d_R_readStripe_27 (tgt := 58) (by decide) (by omega) (by omega) (fun h => ?_) (fun h => ?_)
    · omega
    refine J.aload_n d_R_readStripe_30 rfl rfl ?_
    refine J.getfield d_R_readStripe_31 fl_R_38 rfl rfl ?_
    refine J.iconst d_R_readStripe_34 (v := nI 4) (by decide) ?_
    refine J.iload d_R_readStripe_35 rfl ?_
    refine J.imulN d_R_readStripe_37 ?_
    refine J.iload_n d_R_readStripe_38 rfl rfl ?_
    refine J.iaddN d_R_readStripe_39 ?_
    refine J.aload_n d_R_readStripe_40 rfl rfl ?_
    refine J.getfield d_R_readStripe_41 fl_R_41 rfl rfl ?_
    refine J.iconst d_R_readStripe_44 (v := nI 5) (by decide) ?_
    refine J.iload d_R_readStripe_45 rfl ?_
    refine J.imulN d_R_readStripe_47 ?_
    refine J.iconst d_R_readStripe_48 (v := nI 4) (by decide) ?_
    refine J.iaddN d_R_readStripe_49 ?_
    refine J.ialoadN d_R_readStripe_50 rfl (by omega) (by omega) ?_
    refine J.iastoreN d_R_readStripe_51 rfl (by omega) (by omega) ?_
    refine J.iincN d_R_readStripe_52 rfl rfl (by decide) rfl ?_
    refine J.goto d_R_readStripe_55 (tgt := 21) (by decide) ?_
    exact ih
theorem lp_R_read {o s : Nat} {x : ED} (hx : b256 x) (ho : o < 6) (hs : s < 8) (hK4 : K ≤ 4) (hS : K + Mo ≤ 7) (hp : ∀ i, pl i ≤ 80) (hby : ∀ i, by_ i < 256) (hok : ∀ (r : Nat → Nat) (t : Nat), svOk K (wrT K (K + Mo) (lsB pl o s) (vb pl by_ o s) r t)) : ∀ (j i : Nat), i + j = 4 →
    J l i_R_readStripe 2 [(0, .ref 15), (1, .int (nI o)), (2, .int (nI s)), (3, .int (nI i))] [] (RM P K Mo co dr sz al us by_ ln pl os ou rd ((rdR K (K + Mo) (lsB pl o s) (vb pl by_ o s) x i).2) ((rdR K (K + Mo) (lsB pl o s) (vb pl by_ o s) x i).1) Y) 0 0 (.inl (none, (RM P K Mo co dr sz al us by_ ln pl os ou rd ((rdR K (K + Mo) (lsB pl o s) (vb pl by_ o s) x 4).2) ((rdR K (K + Mo) (lsB pl o s) (vb pl by_ o s) x 4).1) Y)))
  | 0, i, hi => by
    have hi' : i = 4 := by omega
    rw [hi']
    refine J.iload_n d_R_readStripe_2 rfl rfl ?_
    refine J.iconst d_R_readStripe_3 (v := nI 4) (by decide) ?_
    refine J.icmp_geN d_R_readStripe_4 (tgt := 64) (by decide) (by omega) (by omega) (fun h => ?_) (fun h => ?_)
    · exact J.vreturn d_R_readStripe_64 rfl (by decide) (by decide)
    · omega
  | j + 1, i, hi => by
    have ih := lp_R_read hx ho hs hK4 hS hp hby hok j (i + 1) (by omega)
    have hb := rdR_b (K := K) (Sh := K + Mo) (ls := lsB pl o s) (v := vb pl by_ o s) hx (fun _ _ => hby _) i
    have hw : ∀ q, wrT K (K + Mo) (lsB pl o s) (vb pl by_ o s) (rdR K (K + Mo) (lsB pl o s) (vb pl by_ o s) x i).1 i q < 256 := wrS_lt hb.1 (fun h => hby _) (K + Mo)
    refine J.iload_n d_R_readStripe_2 rfl rfl ?_
    refine J.iconst d_R_readStripe_3 (v := nI 4) (by decide) ?_
    refine J.icmp_geN d_R_readStripe_4 (tgt := 64) (by decide) (by omega) (by omega) (fun h => ?_) (fun h => ?_)
    · omega
    refine J.aload_n d_R_readStripe_7 rfl rfl ?_
    refine J.iload_n d_R_readStripe_8 rfl rfl ?_
    refine J.iload_n d_R_readStripe_9 rfl rfl ?_
    refine J.iload_n d_R_readStripe_10 rfl rfl ?_
    refine J.v3v (con_R_writeRows ho hs (by omega) hK4 hS hp) k_R_readStripe_R_writeRows d_R_readStripe_11 rfl rfl rfl ?_
    refine J.aload_n d_R_readStripe_14 rfl rfl ?_
    refine J.v0v (con_R_solve hK4 hw (hok _ _)) k_R_readStripe_R_solve d_R_readStripe_15 rfl rfl rfl ?_
    refine J.iconst d_R_readStripe_18 (v := nI 0) (by decide) ?_
    refine J.istore d_R_readStripe_19 (by decide) rfl ?_
    refine lp_R_st (by omega) hK4 ?_ K 0 (by omega)
    refine J.iincN d_R_readStripe_58 rfl rfl (by decide) rfl ?_
    refine J.goto d_R_readStripe_61 (tgt := 2) (by decide) ?_
    exact ih
theorem con_R_readStripe {o s : Nat} (hr : ∀ i, rw i < 256) (hsp : ∀ i, sp i < 256) (ho : o < 6) (hs : s < 8) (hK4 : K ≤ 4) (hS : K + Mo ≤ 7) (hp : ∀ i, pl i ≤ 80) (hby : ∀ i, by_ i < 256) (hok : ∀ (r : Nat → Nat) (t : Nat), svOk K (wrT K (K + Mo) (lsB pl o s) (vb pl by_ o s) r t)) :
    Con l i_R_readStripe [.ref 15, .int (nI o), .int (nI s)] (RM P K Mo co dr sz al us by_ ln pl os ou rd sp rw Y) (.inl (none, (RM P K Mo co dr sz al us by_ ln pl os ou rd ((rdR K (K + Mo) (lsB pl o s) (vb pl by_ o s) (rw, sp) 4).2) ((rdR K (K + Mo) (lsB pl o s) (vb pl by_ o s) (rw, sp) 4).1) Y))) := by
  refine Con.of ?_
  refine J.iconst d_R_readStripe_0 (v := nI 0) (by decide) ?_
  refine J.istore_n d_R_readStripe_1 rfl (by decide) rfl ?_
  exact lp_R_read (x := (rw, sp)) ⟨hr, hsp⟩ ho hs hK4 hS hp hby hok 4 0 (by omega)
end REFREAD
