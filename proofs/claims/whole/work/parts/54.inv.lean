/-! What is always so: every used slot is one place's, and no other -/
def ct (pl : Nat → Nat) (p : Nat) : Nat := cs (fun k => b2n (decide (pl k = p + 1))) 336
def CT (us pl : Nat → Nat) : Prop := ∀ p, ct pl p = us p
theorem cs_ge {f : Nat → Nat} {i : Nat} : ∀ n, i < n → f i ≤ cs f n
  | 0, h => absurd h (Nat.not_lt_zero _)
  | n + 1, h => by
    show f i ≤ cs f n + f n
    rcases Nat.lt_or_ge i n with h1 | h1
    · have := cs_ge (f := f) n h1; omega
    · have : i = n := by omega
      subst this; omega
theorem cs_ge2 {f : Nat → Nat} {i j : Nat} (hij : i < j) : ∀ n, j < n → f i + f j ≤ cs f n
  | 0, h => absurd h (Nat.not_lt_zero _)
  | n + 1, h => by
    show f i + f j ≤ cs f n + f n
    rcases Nat.lt_or_ge j n with h1 | h1
    · have := cs_ge2 (f := f) hij n h1; omega
    · have : j = n := by omega
      subst this
      have := cs_ge (f := f) j hij
      omega
theorem ct_up {pl : Nat → Nat} {i v p : Nat} (hi : i < 336) : ct (up pl i v) p + b2n (decide (pl i = p + 1)) = ct pl p + b2n (decide (v = p + 1)) := by
  have h := cs_up (f := fun k => b2n (decide (pl k = p + 1))) (i := i) (v := b2n (decide (v = p + 1))) 336 hi
  have e : cs (up (fun k => b2n (decide (pl k = p + 1))) i (b2n (decide (v = p + 1)))) 336 = ct (up pl i v) p := by
    unfold ct
    refine cs_congr 336 (fun k _ => ?_)
    unfold up
    by_cases hk : k = i
    · simp [hk]
    · simp [hk]
  rw [e] at h
  exact h
theorem b2t {p : Prop} [Decidable p] (h : p) : b2n (decide p) = 1 := by rw [decide_eq_true h]; rfl
theorem b2f {p : Prop} [Decidable p] (h : ¬ p) : b2n (decide p) = 0 := by rw [decide_eq_false h]; rfl
theorem CT_one {us pl : Nat → Nat} (h : CT us pl) (h2 : ∀ i, us i < 2) {i : Nat} (hi : i < 336) (h0 : pl i ≠ 0) : us (pl i - 1) = 1 := by
  have h1 := h (pl i - 1)
  have h3 := cs_ge (f := fun k => b2n (decide (pl k = pl i - 1 + 1))) 336 hi
  have h4 : b2n (decide (pl i = pl i - 1 + 1)) = 1 := b2t (by omega)
  have h5 := h2 (pl i - 1)
  have h6 : ct pl (pl i - 1) = cs (fun k => b2n (decide (pl k = pl i - 1 + 1))) 336 := rfl
  omega
theorem CT_inj {us pl : Nat → Nat} (h : CT us pl) (h2 : ∀ i, us i < 2) {i j : Nat} (hi : i < j) (hj : j < 336) (h0 : pl i ≠ 0) : pl i ≠ pl j := by
  intro e
  have h1 := h (pl i - 1)
  have h3 := cs_ge2 (f := fun k => b2n (decide (pl k = pl i - 1 + 1))) hi 336 hj
  have h4 : b2n (decide (pl i = pl i - 1 + 1)) = 1 := b2t (by omega)
  have h5 : b2n (decide (pl j = pl i - 1 + 1)) = 1 := b2t (by omega)
  have h6 := h2 (pl i - 1)
  have h7 : ct pl (pl i - 1) = cs (fun k => b2n (decide (pl k = pl i - 1 + 1))) 336 := rfl
  omega
/-- places only where the catalogue says so -/
def ZS (K Mo : Nat) (ln pl : Nat → Nat) : Prop := ∀ o s h, o < 6 → s < 8 → h < 7 → (ns K (ln o) ≤ s ∨ K + Mo ≤ h) → pl (56 * o + 7 * s + h) = 0
/-- the state's law -/
def IV (K Mo : Nat) (ln : Nat → Nat) (x : U3) : Prop := okU x ∧ CT x.1 x.2.2 ∧ (∀ i, 336 ≤ i → x.2.2 i = 0) ∧ ZS K Mo ln x.2.2
theorem IV_okR {K Mo : Nat} {ln : Nat → Nat} {x : U3} (h : IV K Mo ln x) (c : Nat) : okR (c, x.1, x.2.2) := by
  obtain ⟨h1, h2, h3, _⟩ := h
  have lt : ∀ i, x.2.2 i ≠ 0 → i < 336 := fun i hi => by
    rcases Nat.lt_or_ge i 336 with z | z
    · exact z
    · exact absurd (h3 i z) hi
  refine ⟨⟨fun i hi => CT_one h2 h1.1 (lt i hi) hi, fun i j hi hij => ?_⟩, h1.1, h1.2.2⟩
  have hj : x.2.2 j ≠ 0 := by
    have : x.2.2 i = x.2.2 j := hij
    rw [← this]; exact hi
  rcases Nat.lt_trichotomy i j with z | z | z
  · exact absurd hij (CT_inj h2 h1.1 z (lt j hj) hi)
  · exact z
  · exact absurd hij.symm (CT_inj h2 h1.1 z (lt i hi) hj)
theorem gp_free {al us pl : Nat → Nat} {o s Sh : Nat} (h2 : ∀ i, us i < 2) (hg : gp al us pl o s Sh ≠ 0) : us (gp al us pl o s Sh - 1) = 0 := by
  unfold gp at hg ⊢
  by_cases h : (bdS al us pl o s Sh 8).1 = 0
  · rw [if_pos h] at hg; exact absurd rfl hg
  · rw [if_neg h, Nat.add_sub_cancel]
    exact (ff_spec h2 (bdS_free al us pl o s Sh 8 h).1).2.1
theorem IV_lay {K Mo : Nat} {ln : Nat → Nat} {x : U3} (h : IV K Mo ln x) {da al : Nat → Nat} {o s q : Nat} (hS : K + Mo ≤ 7) (ho : o < 6) (hs8 : s < 8) (hs : s < ns K (ln o)) (hq : q < K + Mo) (h0 : x.2.2 (56 * o + 7 * s + q) = 0) (hg : gp al x.1 x.2.2 o s (K + Mo) ≠ 0) (hda : ∀ i, da i < 256) : IV K Mo ln (layU K da al o s (K + Mo) q x) := by
  obtain ⟨h1, h2, h3, h4⟩ := h
  have hf := gp_free h1.1 hg
  refine ⟨layU_ok h1 hda, fun p => ?_, fun i hi => ?_, fun o' s' q' ho' hs' hq' hz => ?_⟩
  · show ct (up x.2.2 (56 * o + 7 * s + q) (gp al x.1 x.2.2 o s (K + Mo))) p = up x.1 (gp al x.1 x.2.2 o s (K + Mo) - 1) 1 p
    have hc := ct_up (pl := x.2.2) (i := 56 * o + 7 * s + q) (v := gp al x.1 x.2.2 o s (K + Mo)) (p := p) (by omega)
    rw [h0, b2f (show ¬ 0 = p + 1 by omega), h2 p] at hc
    by_cases hp : p = gp al x.1 x.2.2 o s (K + Mo) - 1
    · rw [b2t (show gp al x.1 x.2.2 o s (K + Mo) = p + 1 by omega)] at hc
      rw [← hp] at hf
      rw [hp, up_self, ← hp]
      omega
    · rw [b2f (show ¬ gp al x.1 x.2.2 o s (K + Mo) = p + 1 by omega)] at hc
      rw [up_ne _ _ hp]
      omega
  · show up x.2.2 (56 * o + 7 * s + q) _ i = 0
    rw [up_ne _ _ (by omega)]
    exact h3 i hi
  · show up x.2.2 (56 * o + 7 * s + q) _ (56 * o' + 7 * s' + q') = 0
    by_cases e : 56 * o' + 7 * s' + q' = 56 * o + 7 * s + q
    · have e1 : o' = o := by omega
      have e2 : s' = s := by omega
      have e3 : q' = q := by omega
      rw [e1, e2, e3] at hz
      omega
    · rw [up_ne _ _ e]
      exact h4 o' s' q' ho' hs' hq' hz
theorem IV_rpS {K Mo : Nat} {ln : Nat → Nat} {x : U3} (h : IV K Mo ln x) {da al : Nat → Nat} {o s : Nat} (hS : K + Mo ≤ 7) (ho : o < 6) (hs8 : s < 8) (hs : s < ns K (ln o)) (hda : ∀ i, da i < 256) : ∀ n, n ≤ K + Mo → IV K Mo ln (rpS K da al o s (K + Mo) x n).2
  | 0, _ => h
  | n + 1, hn => by
    have ih := IV_rpS (al := al) h hS ho hs8 hs hda n (by omega)
    unfold rpS; split
    · rename_i hc
      exact IV_lay ih hS ho hs8 hs (by omega) hc.1 hc.2 hda
    · exact ih
theorem IV_rqP {K Mo : Nat} {ln al : Nat → Nat} {x : Nat × U3} (h : IV K Mo ln x.2) {o s : Nat} (hK : 0 < K) (hK4 : K ≤ 4) (hM0 : 0 < Mo) (hM : Mo ≤ 3) (ho : o < 6) (hs8 : s < 8) (hs : s < ns K (ln o)) : IV K Mo ln (rqP K Mo al o s x).2 := by
  unfold rqP; split
  · exact h
  · rename_i hc
    exact IV_rpS h (by omega) ho hs8 hs (rdP_lt (by_ := x.2.2.1) hK hK4 hM0 hM (by omega : nl x.2.2.2 o s (K + Mo) ≤ Mo)) (K + Mo) (Nat.le_refl _)
theorem IV_rtP {K Mo : Nat} {ln al : Nat → Nat} {x : Nat × U3} (h : IV K Mo ln x.2) {o : Nat} (hK : 0 < K) (hK4 : K ≤ 4) (hM0 : 0 < Mo) (hM : Mo ≤ 3) (ho : o < 6) (hln : ln o ≤ 32) : ∀ n, n ≤ ns K (ln o) → IV K Mo ln (rtP K Mo al o x n).2
  | 0, _ => h
  | n + 1, hn => by
    have h8 := ns_le hK hln
    exact IV_rqP (IV_rtP h hK hK4 hM0 hM ho hln n (by omega)) hK hK4 hM0 hM ho (by omega) (by omega)
theorem IV_roP {K Mo : Nat} {ln al : Nat → Nat} {x : Nat × U3} (h : IV K Mo ln x.2) (hK : 0 < K) (hK4 : K ≤ 4) (hM0 : 0 < Mo) (hM : Mo ≤ 3) (hln : ∀ o, ln o ≤ 32) : ∀ n, n ≤ 6 → IV K Mo ln (roP K Mo al ln x n).2
  | 0, _ => h
  | n + 1, hn => IV_rtP (IV_roP h hK hK4 hM0 hM hln n (by omega)) hK hK4 hM0 hM (by omega) (hln n) (ns K (ln n)) (Nat.le_refl _)
/-- store: what isn't laid yet is empty -/
theorem IV_pdH {K Mo : Nat} {ln : Nat → Nat} {x : U3} (h : IV K Mo ln x) {da al : Nat → Nat} {o s : Nat} (hS : K + Mo ≤ 7) (ho : o < 6) (hs8 : s < 8) (hs : s < ns K (ln o)) (hda : ∀ i, da i < 256) (hz : ∀ i, 7 * s ≤ i → i < 56 → x.2.2 (56 * o + i) = 0) : ∀ n, n ≤ K + Mo → IV K Mo ln (pdH K da al o s (K + Mo) x n).2 ∧ ∀ i, 7 * s + n ≤ i → i < 56 → (pdH K da al o s (K + Mo) x n).2.2.2 (56 * o + i) = 0
  | 0, _ => ⟨h, fun i h1 h2 => hz i (by omega) h2⟩
  | n + 1, hn => by
    obtain ⟨i1, i2⟩ := IV_pdH (al := al) h hS ho hs8 hs hda hz n (by omega)
    unfold pdH; split
    · exact ⟨i1, fun i h1 h2 => i2 i (by omega) h2⟩
    · split
      · exact ⟨i1, fun i h1 h2 => i2 i (by omega) h2⟩
      · rename_i hg
        have hq := i2 (7 * s + n) (by omega) (by omega)
        rw [← Nat.add_assoc] at hq
        refine ⟨IV_lay i1 hS ho hs8 hs (by omega) hq hg hda, fun i h1 h2 => ?_⟩
        show up _ (56 * o + 7 * s + n) _ (56 * o + i) = 0
        rw [up_ne _ _ (by omega)]
        exact i2 i (by omega) h2
theorem IV_pdP {K Mo : Nat} {ln : Nat → Nat} {x : U3} (h : IV K Mo ln x) {dr al : Nat → Nat} {dl o : Nat} (hS : K + Mo ≤ 7) (ho : o < 6) (hn8 : ns K (ln o) ≤ 8) (hr : ∀ i, dr i < 256) (hz : ∀ i, i < 56 → x.2.2 (56 * o + i) = 0) : ∀ n, n ≤ ns K (ln o) → IV K Mo ln (pdP K dr dl al o (K + Mo) x n).2 ∧ ∀ i, 7 * n ≤ i → i < 56 → (pdP K dr dl al o (K + Mo) x n).2.2.2 (56 * o + i) = 0
  | 0, _ => ⟨h, fun i _ h2 => hz i h2⟩
  | n + 1, hn => by
    obtain ⟨i1, i2⟩ := IV_pdP (dr := dr) (al := al) (dl := dl) h hS ho hn8 hr hz n (by omega)
    unfold pdP; split
    · exact ⟨i1, fun i h1 h2 => i2 i (by omega) h2⟩
    · obtain ⟨j1, j2⟩ := IV_pdH (al := al) i1 hS ho (by omega) (by omega) (td0_lt (K := K) (dl := dl) (s := n) hr) i2 (K + Mo) (Nat.le_refl _)
      exact ⟨j1, fun i h1 h2 => j2 i (by omega) h2⟩
theorem ns_0 {K : Nat} (hK : 0 < K) : ns K 0 = 0 := by
  unfold ns
  exact Nat.div_eq_of_lt (by omega)
/-- an object's places, all -/
theorem ZS_obj {K Mo : Nat} {ln pl : Nat → Nat} (h : ZS K Mo ln pl) (hK : 0 < K) {o : Nat} (ho : o < 6) (h0 : ln o = 0) {i : Nat} (hi : i < 56) : pl (56 * o + i) = 0 := by
  have := h o (i / 7) (i % 7) ho (by omega) (by omega) (Or.inl (by rw [h0, ns_0 hK]; exact Nat.zero_le _))
  rw [show 56 * o + 7 * (i / 7) + i % 7 = 56 * o + i by omega] at this
  exact this
theorem IV_ln {K Mo : Nat} {ln : Nat → Nat} {x : U3} (h : IV K Mo ln x) (hK : 0 < K) {o v : Nat} (h0 : ln o = 0) : IV K Mo (up ln o v) x := by
  refine ⟨h.1, h.2.1, h.2.2.1, fun o' s q ho hs hq hz => h.2.2.2 o' s q ho hs hq ?_⟩
  by_cases e : o' = o
  · rw [e, h0, ns_0 hK]; exact Or.inl (Nat.zero_le _)
  · rw [up_ne _ _ e] at hz; exact hz
/-- a place given back -/
theorem CT_rl1 {q : Nat} {x : U2} (h : CT x.2.1 x.2.2) (h2 : ∀ i, x.2.1 i < 2) (hq : q < 336) : CT (rl1 q x).2.1 (rl1 q x).2.2 := by
  unfold rl1; split
  · exact h
  · rename_i h0
    intro p
    show ct (up x.2.2 q 0) p = up x.2.1 (x.2.2 q - 1) 0 p
    have hc := ct_up (pl := x.2.2) (i := q) (v := 0) (p := p) hq
    have h3 := h2 p
    rw [b2f (show ¬ 0 = p + 1 by omega), h p] at hc
    by_cases hp : p = x.2.2 q - 1
    · rw [b2t (show x.2.2 q = p + 1 by omega)] at hc
      rw [hp, up_self, ← hp]
      omega
    · rw [up_ne _ _ hp]
      rw [b2f (show ¬ x.2.2 q = p + 1 by omega)] at hc
      omega
theorem rl1_at (q : Nat) (x : U2) (i : Nat) : (rl1 q x).2.2 i = if i = q then 0 else x.2.2 i := by
  unfold rl1; split
  · rename_i h
    by_cases e : i = q
    · rw [if_pos e, e, h]
    · rw [if_neg e]
  · rfl
theorem clS_at (o : Nat) (x : U2) (i : Nat) : ∀ n, (clS o x n).2.2 i = if 56 * o ≤ i ∧ i < 56 * o + n then 0 else x.2.2 i
  | 0 => by rw [if_neg (by omega)]; rfl
  | n + 1 => by
    show (rl1 _ _).2.2 i = _
    rw [rl1_at, clS_at o x i n]
    by_cases e : i = 56 * o + n
    · rw [if_pos e, if_pos (by omega)]
    · rw [if_neg e]
      have : (56 * o ≤ i ∧ i < 56 * o + (n + 1)) ↔ (56 * o ≤ i ∧ i < 56 * o + n) := by omega
      simp only [this]
theorem CT_clS {o : Nat} {x : U2} (h : CT x.2.1 x.2.2) (hb : (∀ i, x.2.1 i < 2) ∧ ∀ i, x.2.2 i ≤ 80) (ho : o < 6) : ∀ n, n ≤ 56 → CT (clS o x n).2.1 (clS o x n).2.2
  | 0, _ => h
  | n + 1, hn => CT_rl1 (CT_clS h hb ho n (by omega)) (clS_b hb n).1 (by omega)
theorem rl1_0 {q : Nat} {x : U2} (h : x.2.2 q = 0) : rl1 q x = x := by unfold rl1; rw [if_pos h]
/-- places that are none are passed over -/
theorem clS_skip {o : Nat} {x : U2} {n : Nat} : ∀ m, (∀ i, n ≤ i → i < n + m → x.2.2 (56 * o + i) = 0) → clS o x (n + m) = clS o x n
  | 0, _ => rfl
  | m + 1, h => by
    show rl1 (56 * o + (n + m)) (clS o x (n + m)) = _
    rw [clS_skip m (fun i h1 h2 => h i h1 (by omega))]
    refine rl1_0 ?_
    rw [clS_at]
    split
    · rfl
    · exact h (n + m) (by omega) (by omega)
theorem clS_rlH {o s : Nat} {x y : U2} (h : clS o x (7 * s) = y) : ∀ n, clS o x (7 * s + n) = rlH o s y n
  | 0 => h
  | n + 1 => by
    show rl1 (56 * o + (7 * s + n)) (clS o x (7 * s + n)) = rl1 (56 * o + 7 * s + n) (rlH o s y n)
    rw [clS_rlH h n, ← Nat.add_assoc]
theorem clS_rlS {K Mo : Nat} {ln : Nat → Nat} {o : Nat} {x : U2} (hz : ZS K Mo ln x.2.2) (hS : K + Mo ≤ 7) (ho : o < 6) : ∀ s, s ≤ 8 → clS o x (7 * s) = rlS o (K + Mo) x s
  | 0, _ => rfl
  | s + 1, hs => by
    have ih := clS_rlS (o := o) hz hS ho s (by omega)
    have e := clS_rlH ih (K + Mo)
    have e2 := clS_skip (o := o) (x := x) (n := 7 * s + (K + Mo)) (7 - (K + Mo)) (fun i h1 h2 => by
      have := hz o s (i - 7 * s) ho (by omega) (by omega) (Or.inr (by omega))
      rw [show 56 * o + 7 * s + (i - 7 * s) = 56 * o + i by omega] at this
      exact this)
    rw [show 7 * s + (K + Mo) + (7 - (K + Mo)) = 7 * (s + 1) by omega, e] at e2
    exact e2
theorem cl_eq {K Mo : Nat} {ln : Nat → Nat} {o : Nat} {x : U2} (hz : ZS K Mo ln x.2.2) (hS : K + Mo ≤ 7) (ho : o < 6) (hn : ns K (ln o) ≤ 8) : clS o x 56 = rlS o (K + Mo) x (ns K (ln o)) := by
  rw [← clS_rlS hz hS ho (ns K (ln o)) hn]
  have := clS_skip (o := o) (x := x) (n := 7 * ns K (ln o)) (56 - 7 * ns K (ln o)) (fun i h1 h2 => by
    have := hz o (i / 7) (i % 7) ho (by omega) (by omega) (Or.inl (by omega))
    rw [show 56 * o + 7 * (i / 7) + i % 7 = 56 * o + i by omega] at this
    exact this)
  rw [show 7 * ns K (ln o) + (56 - 7 * ns K (ln o)) = 56 by omega] at this
  exact this
theorem IV_clear {K Mo : Nat} {ln : Nat → Nat} {x : U3} (h : IV K Mo ln x) {o : Nat} (ho : o < 6) (c : Nat) : IV K Mo (up ln o 0) ((clS o (c, x.1, x.2.2) 56).2.1, x.2.1, (clS o (c, x.1, x.2.2) 56).2.2) := by
  obtain ⟨h1, h2, h3, h4⟩ := h
  have hb : (∀ i, (c, x.1, x.2.2).2.1 i < 2) ∧ ∀ i, (c, x.1, x.2.2).2.2 i ≤ 80 := ⟨h1.1, h1.2.2⟩
  have hb2 := clS_b (o := o) hb 56
  have hct := CT_clS (x := (c, x.1, x.2.2)) h2 hb ho 56 (Nat.le_refl _)
  have hat := fun i => clS_at o (c, x.1, x.2.2) i 56
  generalize clS o (c, x.1, x.2.2) 56 = y at hb2 hct hat ⊢
  refine ⟨⟨hb2.1, h1.2.1, hb2.2⟩, hct, fun i hi => ?_, fun o' s q ho' hs hq hz => ?_⟩
  · show y.2.2 i = 0
    rw [hat, if_neg (by omega)]
    exact h3 i hi
  · show y.2.2 _ = 0
    rw [hat]
    split
    · rfl
    · rename_i hne
      have hne' : o' ≠ o := fun e => hne (by rw [e]; omega)
      rw [up_ne _ _ hne'] at hz
      exact h4 o' s q ho' hs hq hz
/-- a disk's places, counted by its slots -/
theorem od10_sum (d x : Nat) : b2n (od10 d x) = cs (fun s => b2n (decide (x = 10 * d + s + 1))) 10 := by
  by_cases h : x ≠ 0 ∧ (x - 1) / 10 = d
  · have e : od10 d x = true := by simp [od10, h.1, h.2]
    have hle := fun f => cs_ge (f := f) (i := (x - 1) % 10) 10 (by omega)
    rw [e]
    show 1 = _
    have e2 : cs (fun s => b2n (decide (x = 10 * d + s + 1))) 10 = cs (up (fun _ => 0) ((x - 1) % 10) 1) 10 := by
      refine cs_congr 10 (fun i hi => ?_)
      unfold up
      by_cases z : i = (x - 1) % 10
      · rw [if_pos z, b2t (by omega)]
      · rw [if_neg z, b2f (by omega)]
    have e3 := cs_up (f := fun _ => 0) (i := (x - 1) % 10) (v := 1) 10 (by omega)
    have e4 : cs (fun _ => 0) 10 = 0 := by decide
    rw [e4] at e3
    rw [e2]
    omega
  · have e : od10 d x = false := by
      unfold od10
      rcases Nat.eq_zero_or_pos x with z | z
      · simp [z]
      · have : ¬ (x - 1) / 10 = d := fun q => h ⟨by omega, q⟩
        simp [this]
    rw [e]
    show 0 = _
    have e4 : cs (fun _ => 0) 10 = 0 := by decide
    rw [← e4]
    exact cs_congr 10 (fun i hi => (b2f (fun z => h ⟨by omega, by omega⟩)).symm)
theorem cs_0 : ∀ n, cs (fun _ => 0) n = 0
  | 0 => rfl
  | n + 1 => by show cs _ n + 0 = 0; rw [cs_0 n]
theorem cs_addf (f g : Nat → Nat) : ∀ n, cs (fun i => f i + g i) n = cs f n + cs g n
  | 0 => rfl
  | n + 1 => by
    show cs _ n + (f n + g n) = (cs f n + f n) + (cs g n + g n)
    rw [cs_addf f g n]; omega
theorem cs_swap (f : Nat → Nat → Nat) (m : Nat) : ∀ n, cs (fun i => cs (fun j => f i j) m) n = cs (fun j => cs (fun i => f i j) n) m
  | 0 => (cs_0 m).symm
  | n + 1 => by
    show cs _ n + cs (fun j => f n j) m = cs (fun j => cs (fun i => f i j) n + f n j) m
    rw [cs_addf, cs_swap f m n]
theorem fail_count {us pl : Nat → Nat} (h : CT us pl) (d : Nat) : cs (fun i => b2n (od10 d (pl i))) 336 = ud us d := by
  rw [cs_congr (g := fun i => cs (fun s => b2n (decide (pl i = 10 * d + s + 1))) 10) 336 (fun i _ => od10_sum d (pl i)), cs_swap]
  unfold ud
  exact cs_congr 10 (fun s _ => h (10 * d + s))
theorem IV_fail {K Mo : Nat} {ln : Nat → Nat} {x : U3} (h : IV K Mo ln x) (d : Nat) : IV K Mo ln (fz10 x.1 d 10, x.2.1, lz10 x.2.2 d 336) := by
  obtain ⟨h1, h2, h3, h4⟩ := h
  have hl : ∀ i, lz10 x.2.2 d 336 i = 0 ∨ lz10 x.2.2 d 336 i = x.2.2 i := fun i => by
    unfold lz10; split
    · exact Or.inl rfl
    · exact Or.inr rfl
  refine ⟨⟨fun i => ?_, h1.2.1, fun i => ?_⟩, fun p => ?_, fun i hi => ?_, fun o s q ho hs hq hz => ?_⟩
  · show fz10 x.1 d 10 i < 2
    unfold fz10; split
    · decide
    · exact h1.1 i
  · show lz10 x.2.2 d 336 i ≤ 80
    have := h1.2.2 i
    rcases hl i with z | z <;> omega
  · show cs (fun k => b2n (decide (lz10 x.2.2 d 336 k = p + 1))) 336 = fz10 x.1 d 10 p
    unfold fz10
    by_cases hp : p / 10 = d
    · rw [if_pos ⟨hp, by omega⟩, ← cs_0 336]
      refine cs_congr 336 (fun k hk => b2f (fun e => ?_))
      unfold lz10 at e
      by_cases hc : k < 336 ∧ od10 d (x.2.2 k) = true
      · rw [if_pos hc] at e; omega
      · rw [if_neg hc] at e
        exact hc ⟨hk, by unfold od10; rw [e]; simp [hp]⟩
    · rw [if_neg (fun z => hp z.1), ← h2 p]
      unfold ct
      refine cs_congr 336 (fun k hk => ?_)
      congr 1
      unfold lz10
      by_cases hc : k < 336 ∧ od10 d (x.2.2 k) = true
      · rw [if_pos hc]
        have hc2 := hc.2
        unfold od10 at hc2
        simp only [Bool.and_eq_true, decide_eq_true_eq] at hc2
        rw [decide_eq_false (show ¬ 0 = p + 1 by omega), decide_eq_false]
        intro e
        have := hc2.2
        rw [e, Nat.add_sub_cancel] at this
        exact hp this
      · rw [if_neg hc]
  · show lz10 x.2.2 d 336 i = 0
    rcases hl i with z | z
    · exact z
    · rw [z]; exact h3 i hi
  · show lz10 x.2.2 d 336 _ = 0
    rcases hl (56 * o + 7 * s + q) with z | z
    · exact z
    · rw [z]; exact h4 o s q ho hs hq hz
/-- the class's arrays behind a failure -/
theorem ud_fz (us : Nat → Nat) (d e : Nat) : ud (fz10 us d 10) e = if e = d then 0 else ud us e := by
  unfold ud
  by_cases h : e = d
  · rw [if_pos h, ← cs_0 10]
    refine cs_congr 10 (fun i hi => ?_)
    unfold fz10
    rw [if_pos (by omega)]
  · rw [if_neg h]
    refine cs_congr 10 (fun i hi => ?_)
    unfold fz10
    rw [if_neg (by omega)]
theorem fr_fail (us : Nat → Nat) {d : Nat} (hd : d < 8) : frOf (fz10 us d 10) = up (frOf us) d 10 := by
  funext e
  unfold frOf
  rw [ud_fz]
  by_cases h : e = d
  · rw [h, up_self, if_pos hd, if_pos rfl]
  · rw [up_ne _ _ h, if_neg h]
theorem tk_fail (us : Nat → Nat) (d : Nat) : tkOf (fz10 us d 10) = fz (tkOf us) d 10 := by
  funext k
  unfold tkOf fz fz10
  dsimp only
  by_cases h : k % 16 < 10
  · rw [if_pos h, if_pos h]
    by_cases e : k / 16 = d
    · rw [if_pos (by omega), if_pos ⟨e, h⟩]
    · rw [if_neg (by omega), if_neg (fun z => e z.1)]
  · rw [if_neg h, if_neg h]
    split <;> rfl
theorem pl_fail (Sh : Nat) (pl : Nat → Nat) (d : Nat) (hS0 : 0 < Sh) (hS : Sh ≤ 7) : plOf Sh (lz10 pl d 336) = lz (plOf Sh pl) d 336 := by
  funext i
  have e : lz (plOf Sh pl) d 336 i = if i < 336 ∧ od d (plOf Sh pl i) = true then 0 else plOf Sh pl i := rfl
  rw [e]
  have h7 := Nat.mod_lt (i % 56) hS0
  by_cases h : i % 56 / Sh < 8
  · have e1 : plOf Sh pl i = tr (pl (56 * (i / 56) + 7 * (i % 56 / Sh) + i % 56 % Sh)) := by unfold plOf; rw [if_pos h]
    have e2 : plOf Sh (lz10 pl d 336) i = tr (lz10 pl d 336 (56 * (i / 56) + 7 * (i % 56 / Sh) + i % 56 % Sh)) := by unfold plOf; rw [if_pos h]
    simp only [e1, e2, od_tr]
    unfold lz10
    by_cases hi : i < 336
    · have hlt : 56 * (i / 56) + 7 * (i % 56 / Sh) + i % 56 % Sh < 336 := by omega
      by_cases ho : od10 d (pl (56 * (i / 56) + 7 * (i % 56 / Sh) + i % 56 % Sh)) = true
      · rw [if_pos ⟨hlt, ho⟩, if_pos ⟨hi, ho⟩]; rfl
      · rw [if_neg (fun z => ho z.2), if_neg (fun z => ho z.2)]
    · rw [if_neg (fun z => hi (by omega)), if_neg (fun z => hi z.1)]
  · have e1 : plOf Sh pl i = 0 := by unfold plOf; rw [if_neg h]
    have e2 : plOf Sh (lz10 pl d 336) i = 0 := by unfold plOf; rw [if_neg h]
    rw [e1, e2]
    split <;> rfl
