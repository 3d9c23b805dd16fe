/-! A whole object: the class's side -/
section OBJ
variable {l : Launch} {K Mo dl ol : Nat} {dr ou da eq al us by_ ln pl : Nat → Nat} {X : List va_E}
theorem ns_le {K n : Nat} (hK : 0 < K) (hn : n ≤ 32) : ns K n ≤ 8 := by
  unfold ns
  have : (n + 4 * K - 1) / (4 * K) < 9 := Nat.div_lt_of_lt_mul (by omega)
  omega
/-- a stripe's shards ahead of n laid one by one: 0 once one finds no disk -/
def pdH (K : Nat) (da al : Nat → Nat) (o s Sh : Nat) (x : U3) : Nat → Nat × U3
  | 0 => (1, x)
  | h + 1 => if (pdH K da al o s Sh x h).1 = 0 then pdH K da al o s Sh x h else if gp al (pdH K da al o s Sh x h).2.1 (pdH K da al o s Sh x h).2.2.2 o s Sh = 0 then (0, (pdH K da al o s Sh x h).2) else (1, layU K da al o s Sh h (pdH K da al o s Sh x h).2)
theorem pdH_ok {K : Nat} {da al : Nat → Nat} {o s Sh : Nat} {x : U3} (hx : okU x) (hda : ∀ i, da i < 256) : ∀ n, okU (pdH K da al o s Sh x n).2
  | 0 => hx
  | n + 1 => by
    have ih := pdH_ok (K := K) (al := al) (o := o) (s := s) (Sh := Sh) hx hda n
    unfold pdH; split
    · exact ih
    · split
      · exact ih
      · exact layU_ok ih hda
theorem pdH_stop {K : Nat} {da al : Nat → Nat} {o s Sh : Nat} {x : U3} {n : Nat} (h : (pdH K da al o s Sh x n).1 = 0) : ∀ j, pdH K da al o s Sh x (n + j) = pdH K da al o s Sh x n
  | 0 => rfl
  | j + 1 => by
    have ih := pdH_stop h j
    show (if (pdH K da al o s Sh x (n + j)).1 = 0 then pdH K da al o s Sh x (n + j) else _) = _
    rw [ih, if_pos h]
theorem td_lt {K : Nat} {dr : Nat → Nat} {dl s : Nat} {da : Nat → Nat} {n : Nat} (hr : ∀ i, dr i < 256) (hd : ∀ i, da i < 256) (i : Nat) : td K dr dl s da n i < 256 := by
  unfold td; split
  · split
    · exact hr _
    · decide
  · exact hd i
/-- the stripes ahead of n: 0 once a shard finds no disk, the data at hand, what is there -/
def pdS (K : Nat) (dr : Nat → Nat) (dl : Nat) (al : Nat → Nat) (o Sh : Nat) (da : Nat → Nat) (x : U3) : Nat → Nat × (Nat → Nat) × U3
  | 0 => (1, da, x)
  | s + 1 => if (pdS K dr dl al o Sh da x s).1 = 0 then pdS K dr dl al o Sh da x s else ((pdH K (td K dr dl s (pdS K dr dl al o Sh da x s).2.1 (4 * K)) al o s Sh (pdS K dr dl al o Sh da x s).2.2 Sh).1, td K dr dl s (pdS K dr dl al o Sh da x s).2.1 (4 * K), (pdH K (td K dr dl s (pdS K dr dl al o Sh da x s).2.1 (4 * K)) al o s Sh (pdS K dr dl al o Sh da x s).2.2 Sh).2)
theorem pdS_ok {K : Nat} {dr : Nat → Nat} {dl : Nat} {al : Nat → Nat} {o Sh : Nat} {da : Nat → Nat} {x : U3} (hx : okU x) (hr : ∀ i, dr i < 256) (hda : ∀ i, da i < 256) : ∀ n, okU (pdS K dr dl al o Sh da x n).2.2 ∧ ∀ i, (pdS K dr dl al o Sh da x n).2.1 i < 256
  | 0 => ⟨hx, hda⟩
  | n + 1 => by
    have ih := pdS_ok (K := K) (dl := dl) (al := al) (o := o) (Sh := Sh) hx hr hda n
    unfold pdS; split
    · exact ih
    · exact ⟨pdH_ok ih.1 (td_lt hr ih.2) Sh, td_lt hr ih.2⟩
theorem pdS_stop {K : Nat} {dr : Nat → Nat} {dl : Nat} {al : Nat → Nat} {o Sh : Nat} {da : Nat → Nat} {x : U3} {n : Nat} (h : (pdS K dr dl al o Sh da x n).1 = 0) : ∀ j, pdS K dr dl al o Sh da x (n + j) = pdS K dr dl al o Sh da x n
  | 0 => rfl
  | j + 1 => by
    have ih := pdS_stop h j
    show (if (pdS K dr dl al o Sh da x (n + j)).1 = 0 then pdS K dr dl al o Sh da x (n + j) else _) = _
    rw [ih, if_pos h]
theorem lp_V_pdH {o s : Nat} {x : U3} (hx : okU x) (hK : 0 < K) (hK4 : K ≤ 4) (hM : Mo ≤ 3) (ho : o < 6) (hs : s < 8) (ha : ∀ i, al i < 2) (hda : ∀ i, da i < 256) {out : Out}
    (h1 : (pdH K da al o s (K + Mo) x (K + Mo)).1 ≠ 0 → J l i_V_placeDraft 62 [(0, .ref 0), (1, .int (nI o)), (2, .int (nI s))] [] (CA K Mo dr dl ou ol da eq al ((pdH K da al o s (K + Mo) x (K + Mo)).2.1) ((pdH K da al o s (K + Mo) x (K + Mo)).2.2.1) ln ((pdH K da al o s (K + Mo) x (K + Mo)).2.2.2) X) 0 0 out)
    (h0 : (pdH K da al o s (K + Mo) x (K + Mo)).1 = 0 → out = .inl (some (.int (nI 0)), (CA K Mo dr dl ou ol da eq al ((pdH K da al o s (K + Mo) x (K + Mo)).2.1) ((pdH K da al o s (K + Mo) x (K + Mo)).2.2.1) ln ((pdH K da al o s (K + Mo) x (K + Mo)).2.2.2) X))) : ∀ (j i : Nat), i + j = K + Mo → (pdH K da al o s (K + Mo) x i).1 ≠ 0 →
    J l i_V_placeDraft 32 [(0, .ref 0), (1, .int (nI o)), (2, .int (nI s)), (3, .int (nI (o * 56 + s * (K + Mo)))), (4, .int (nI i))] [] (CA K Mo dr dl ou ol da eq al ((pdH K da al o s (K + Mo) x i).2.1) ((pdH K da al o s (K + Mo) x i).2.2.1) ln ((pdH K da al o s (K + Mo) x i).2.2.2) X) 0 0 out
  | 0, i, hi, hg => by
    have hi' : i = K + Mo := by omega
    rw [hi'] at hg ⊢
    refine J.iload d_V_placeDraft_32 rfl ?_
    refine J.aload_n d_V_placeDraft_34 rfl rfl ?_
    refine J.getfield d_V_placeDraft_35 fl_V_18 rfl rfl ?_
    refine J.getfield d_V_placeDraft_38 fl_V_142 rfl rfl ?_
    refine J.icmp_geN d_V_placeDraft_41 (tgt := 62) (by decide) (by omega) (by omega) (fun h => ?_) (fun h => ?_)
    · exact J.sub [0, 1, 2] (h1 hg)
    · omega
  | j + 1, i, hi, hg => by
    have hS : K + Mo ≤ 7 := by omega
    have hh : i < K + Mo := by omega
    have hok := pdH_ok (K := K) (al := al) (o := o) (s := s) (Sh := K + Mo) hx hda i
    have ih := lp_V_pdH hx hK hK4 hM ho hs ha hda h1 h0 j (i + 1) (by omega)
    refine J.iload d_V_placeDraft_32 rfl ?_
    refine J.aload_n d_V_placeDraft_34 rfl rfl ?_
    refine J.getfield d_V_placeDraft_35 fl_V_18 rfl rfl ?_
    refine J.getfield d_V_placeDraft_38 fl_V_142 rfl rfl ?_
    refine J.icmp_geN d_V_placeDraft_41 (tgt := 62) (by decide) (by omega) (by omega) (fun h => ?_) (fun h => ?_)
    · omega
    refine J.aload_n d_V_placeDraft_44 rfl rfl ?_
    refine J.iload_n d_V_placeDraft_45 rfl rfl ?_
    refine J.iload d_V_placeDraft_46 rfl ?_
    by_cases hgp : gp al (pdH K da al o s (K + Mo) x i).2.1 (pdH K da al o s (K + Mo) x i).2.2.2 o s (K + Mo) = 0
    · have e : pdH K da al o s (K + Mo) x (i + 1) = (0, (pdH K da al o s (K + Mo) x i).2) := by
        show (if _ then _ else _) = _
        rw [if_neg hg, if_pos hgp]
      have e2 := pdH_stop (by rw [e] : (pdH K da al o s (K + Mo) x (i + 1)).1 = 0) j
      rw [show i + 1 + j = K + Mo by omega, e] at e2
      have h0' := h0 (by rw [e2])
      rw [e2] at h0'
      rw [h0']
      refine J.v2i (con_V_placeShard0 hS ho hs hok.2.2 hok.1 ha hgp) k_V_placeDraft_V_placeShard d_V_placeDraft_48 rfl rfl rfl ?_
      refine J.if_neN d_V_placeDraft_51 (tgt := 56) (by decide) (by omega) (fun h3 => ?_) (fun h3 => ?_)
      · exact absurd rfl h3
      · refine J.iconst d_V_placeDraft_54 (v := nI 0) (by decide) ?_
        first | exact J.zreturn d_V_placeDraft_55 rfl rfl (by decide) (by decide) | exact J.zreturnN d_V_placeDraft_55 rfl (by omega) (by decide) (by decide)
    · have e : pdH K da al o s (K + Mo) x (i + 1) = (1, layU K da al o s (K + Mo) i (pdH K da al o s (K + Mo) x i).2) := by
        show (if _ then _ else _) = _
        rw [if_neg hg, if_neg hgp]
      rw [e] at ih
      refine J.v2i (con_V_placeShard hK hK4 hM ho hs hh hda hok.2.2 hok.1 ha hgp) k_V_placeDraft_V_placeShard d_V_placeDraft_48 rfl rfl rfl ?_
      refine J.if_neN d_V_placeDraft_51 (tgt := 56) (by decide) (by omega) (fun h3 => ?_) (fun h3 => ?_)
      · refine J.iincN d_V_placeDraft_56 rfl rfl (by decide) rfl ?_
        refine J.goto d_V_placeDraft_59 (tgt := 32) (by decide) ?_
        exact ih (Nat.succ_ne_zero 0)
      · exact absurd h3 (by decide)
theorem lp_V_pdS {o : Nat} {x : U3} (hx : okU x) (hK : 0 < K) (hK4 : K ≤ 4) (hM : Mo ≤ 3) (ho : o < 6) (ha : ∀ i, al i < 2) (hda : ∀ i, da i < 256) (hr : ∀ i, dr i < 256) (hdl : dl ≤ 32) (hln : ln o ≤ 32) : ∀ (j i : Nat), i + j = ns K (ln o) → (pdS K dr dl al o (K + Mo) da x i).1 ≠ 0 →
    J l i_V_placeDraft 2 [(0, .ref 0), (1, .int (nI o)), (2, .int (nI i))] [] (CA K Mo dr dl ou ol ((pdS K dr dl al o (K + Mo) da x i).2.1) eq al ((pdS K dr dl al o (K + Mo) da x i).2.2.1) ((pdS K dr dl al o (K + Mo) da x i).2.2.2.1) ln ((pdS K dr dl al o (K + Mo) da x i).2.2.2.2) X) 0 0
      (.inl (some (.int (nI (if (pdS K dr dl al o (K + Mo) da x (ns K (ln o))).1 = 0 then 0 else 1))), (CA K Mo dr dl ou ol ((pdS K dr dl al o (K + Mo) da x (ns K (ln o))).2.1) eq al ((pdS K dr dl al o (K + Mo) da x (ns K (ln o))).2.2.1) ((pdS K dr dl al o (K + Mo) da x (ns K (ln o))).2.2.2.1) ln ((pdS K dr dl al o (K + Mo) da x (ns K (ln o))).2.2.2.2) X)))
  | 0, i, hi, hg => by
    have hn8 := ns_le hK hln
    have hi' : i = ns K (ln o) := by omega
    rw [hi'] at hg ⊢
    refine J.iload_n d_V_placeDraft_2 rfl rfl ?_
    refine J.aload_n d_V_placeDraft_3 rfl rfl ?_
    refine J.getfield d_V_placeDraft_4 fl_V_32 rfl rfl ?_
    refine J.iload_n d_V_placeDraft_7 rfl rfl ?_
    refine J.v1i (con_G_stripesOf ho hK hK4 (by omega)) k_V_placeDraft_G_stripesOf d_V_placeDraft_8 rfl rfl rfl ?_
    refine J.icmp_geN d_V_placeDraft_11 (tgt := 68) (by decide) (by omega) (by omega) (fun h => ?_) (fun h => ?_)
    · rw [if_neg hg]
      refine J.iconst d_V_placeDraft_68 (v := nI 1) (by decide) ?_
      first | exact J.zreturn d_V_placeDraft_69 rfl rfl (by decide) (by decide) | exact J.zreturnN d_V_placeDraft_69 rfl (by omega) (by decide) (by decide)
    · omega
  | j + 1, i, hi, hg => by
    have hn8 := ns_le hK hln
    have hok := pdS_ok (K := K) (dl := dl) (al := al) (o := o) (Sh := K + Mo) hx hr hda i
    have hs8 : i < 8 := by omega
    have hdai := td_lt (K := K) (dl := dl) (s := i) (n := 4 * K) hr hok.2
    have ih := lp_V_pdS hx hK hK4 hM ho ha hda hr hdl hln j (i + 1) (by omega)
    have e : pdS K dr dl al o (K + Mo) da x (i + 1) = ((pdH K (td K dr dl i (pdS K dr dl al o (K + Mo) da x i).2.1 (4 * K)) al o i (K + Mo) (pdS K dr dl al o (K + Mo) da x i).2.2 (K + Mo)).1, td K dr dl i (pdS K dr dl al o (K + Mo) da x i).2.1 (4 * K), (pdH K (td K dr dl i (pdS K dr dl al o (K + Mo) da x i).2.1 (4 * K)) al o i (K + Mo) (pdS K dr dl al o (K + Mo) da x i).2.2 (K + Mo)).2) := by
      show (if _ then _ else _) = _
      rw [if_neg hg]
    refine J.iload_n d_V_placeDraft_2 rfl rfl ?_
    refine J.aload_n d_V_placeDraft_3 rfl rfl ?_
    refine J.getfield d_V_placeDraft_4 fl_V_32 rfl rfl ?_
    refine J.iload_n d_V_placeDraft_7 rfl rfl ?_
    refine J.v1i (con_G_stripesOf ho hK hK4 (by omega)) k_V_placeDraft_G_stripesOf d_V_placeDraft_8 rfl rfl rfl ?_
    refine J.icmp_geN d_V_placeDraft_11 (tgt := 68) (by decide) (by omega) (by omega) (fun h => ?_) (fun h => ?_)
    · omega
    refine J.aload_n d_V_placeDraft_14 rfl rfl ?_
    refine J.iload_n d_V_placeDraft_15 rfl rfl ?_
    refine J.v1v (con_V_takeDataFromDraft hK4 hdl hs8) k_V_placeDraft_V_takeDataFromDraft d_V_placeDraft_16 rfl rfl rfl ?_
    refine J.aload_n d_V_placeDraft_19 rfl rfl ?_
    refine J.getfield d_V_placeDraft_20 fl_V_32 rfl rfl ?_
    refine J.iload_n d_V_placeDraft_23 rfl rfl ?_
    refine J.iload_n d_V_placeDraft_24 rfl rfl ?_
    refine J.v2i con_G_rowOf k_V_placeDraft_G_rowOf d_V_placeDraft_25 rfl rfl rfl ?_
    refine J.istore_n d_V_placeDraft_28 rfl (by decide) rfl ?_
    refine J.iconst d_V_placeDraft_29 (v := nI 0) (by decide) ?_
    refine J.istore d_V_placeDraft_30 (by decide) rfl ?_
    refine lp_V_pdH (x := (pdS K dr dl al o (K + Mo) da x i).2.2) hok.1 hK hK4 hM ho hs8 ha hdai ?_ ?_ (K + Mo) 0 (by omega) (Nat.succ_ne_zero 0)
    · intro hne
      rw [e] at ih
      refine J.iincN d_V_placeDraft_62 rfl rfl (by decide) rfl ?_
      refine J.goto d_V_placeDraft_65 (tgt := 2) (by decide) ?_
      exact ih hne
    · intro he
      have e2 := pdS_stop (by rw [e]; exact he : (pdS K dr dl al o (K + Mo) da x (i + 1)).1 = 0) j
      rw [show i + 1 + j = ns K (ln o) by omega] at e2
      rw [e2, e, if_pos he]
theorem con_V_placeDraft {o : Nat} (hx : okU (us, by_, pl)) (hK : 0 < K) (hK4 : K ≤ 4) (hM : Mo ≤ 3) (ho : o < 6) (ha : ∀ i, al i < 2) (hda : ∀ i, da i < 256) (hr : ∀ i, dr i < 256) (hdl : dl ≤ 32) (hln : ln o ≤ 32) : Con l i_V_placeDraft [.ref 0, .int (nI o)] (CA K Mo dr dl ou ol da eq al us by_ ln pl X)
      (.inl (some (.int (nI (if (pdS K dr dl al o (K + Mo) da (us, by_, pl) (ns K (ln o))).1 = 0 then 0 else 1))), (CA K Mo dr dl ou ol ((pdS K dr dl al o (K + Mo) da (us, by_, pl) (ns K (ln o))).2.1) eq al ((pdS K dr dl al o (K + Mo) da (us, by_, pl) (ns K (ln o))).2.2.1) ((pdS K dr dl al o (K + Mo) da (us, by_, pl) (ns K (ln o))).2.2.2.1) ln ((pdS K dr dl al o (K + Mo) da (us, by_, pl) (ns K (ln o))).2.2.2.2) X))) := by
  refine Con.of ?_
  refine J.iconst d_V_placeDraft_0 (v := nI 0) (by decide) ?_
  refine J.istore_n d_V_placeDraft_1 rfl (by decide) rfl ?_
  exact lp_V_pdS hx hK hK4 hM ho ha hda hr hdl hln (ns K (ln o)) 0 (by omega) (Nat.succ_ne_zero 0)
/-- slots, places and how many went -/
abbrev U2 : Type := Nat × (Nat → Nat) × (Nat → Nat)
/-- a place's slot is used, and no other place's -/
def inj (us pl : Nat → Nat) : Prop := (∀ i, pl i ≠ 0 → us (pl i - 1) = 1) ∧ ∀ i j, pl i ≠ 0 → pl i = pl j → i = j
def rl1 (q : Nat) (x : U2) : U2 := if x.2.2 q = 0 then x else (x.1 + 1, up x.2.1 (x.2.2 q - 1) 0, up x.2.2 q 0)
theorem rl1_inj {q : Nat} {x : U2} (h : inj x.2.1 x.2.2) : inj (rl1 q x).2.1 (rl1 q x).2.2 := by
  unfold rl1; split
  · exact h
  · rename_i h0
    refine ⟨fun i hi => ?_, fun i j hi hij => ?_⟩
    · show up x.2.1 (x.2.2 q - 1) 0 (up x.2.2 q 0 i - 1) = 1
      have hi' : up x.2.2 q 0 i ≠ 0 := hi
      by_cases hq : i = q
      · subst hq; rw [up_self] at hi'; exact absurd rfl hi'
      · rw [up_ne _ _ hq] at hi' ⊢
        rw [up_ne]
        · exact h.1 i hi'
        · intro e
          exact hq (h.2 i q hi' (by omega))
    · have hi' : up x.2.2 q 0 i ≠ 0 := hi
      have hij' : up x.2.2 q 0 i = up x.2.2 q 0 j := hij
      have hq : i ≠ q := fun e => by subst e; rw [up_self] at hi'; exact hi' rfl
      have hj : j ≠ q := fun e => by subst e; rw [up_self] at hij'; exact hi' hij'
      rw [up_ne _ _ hq] at hi' hij'
      rw [up_ne _ _ hj] at hij'
      exact h.2 i j hi' hij'
theorem rl1_b {q : Nat} {x : U2} (h : (∀ i, x.2.1 i < 2) ∧ ∀ i, x.2.2 i ≤ 80) : (∀ i, (rl1 q x).2.1 i < 2) ∧ ∀ i, (rl1 q x).2.2 i ≤ 80 := by
  unfold rl1; split
  · exact h
  · refine ⟨up_lt h.1 (by decide), fun i => ?_⟩
    have := up_lt (f := x.2.2) (i := q) (v := 0) (m := 81) (fun i => by have := h.2 i; omega) (by decide) i
    show up x.2.2 q 0 i ≤ 80
    omega
/-- a stripe's shards ahead of n given back -/
def rlH (o s : Nat) (x : U2) : Nat → U2
  | 0 => x
  | h + 1 => rl1 (56 * o + 7 * s + h) (rlH o s x h)
def rlS (o Sh : Nat) (x : U2) : Nat → U2
  | 0 => x
  | s + 1 => rlH o s (rlS o Sh x s) Sh
def okR (x : U2) : Prop := inj x.2.1 x.2.2 ∧ (∀ i, x.2.1 i < 2) ∧ ∀ i, x.2.2 i ≤ 80
theorem rlH_ok {o s : Nat} {x : U2} (h : okR x) : ∀ n, okR (rlH o s x n)
  | 0 => h
  | n + 1 => ⟨rl1_inj (rlH_ok h n).1, rl1_b (rlH_ok h n).2⟩
theorem rlS_ok {o Sh : Nat} {x : U2} (h : okR x) : ∀ n, okR (rlS o Sh x n)
  | 0 => h
  | n + 1 => rlH_ok (rlS_ok h n) Sh
theorem rl1_le (q : Nat) (x : U2) : (rl1 q x).1 ≤ x.1 + 1 := by unfold rl1; split <;> simp
theorem rlH_le (o s : Nat) (x : U2) : ∀ n, (rlH o s x n).1 ≤ x.1 + n
  | 0 => Nat.le_refl _
  | n + 1 => by
    have h1 := rl1_le (56 * o + 7 * s + n) (rlH o s x n)
    have h2 := rlH_le o s x n
    show (rl1 _ _).1 ≤ _
    omega
theorem rlS_le (o Sh : Nat) (x : U2) : ∀ n, (rlS o Sh x n).1 ≤ x.1 + n * Sh
  | 0 => by simp [rlS]
  | n + 1 => by
    have h1 := rlH_le o n (rlS o Sh x n) Sh
    have h2 := rlS_le o Sh x n
    show (rlH _ _ _ _).1 ≤ _
    rw [Nat.succ_mul]; omega
theorem lp_V_rlH {o s : Nat} {x : U2} (hx : okR x) (hx1 : x.1 ≤ 1000) (hS : K + Mo ≤ 7) (ho : o < 6) (hs : s < 8) {out : Out}
    (kk : J l i_V_releaseObject 91 [(0, .ref 0), (1, .int (nI o)), (2, .int (nI (rlH o s x (K + Mo)).1)), (3, .int (nI s))] [] (CA K Mo dr dl ou ol da eq al ((rlH o s x (K + Mo)).2.1) by_ ln ((rlH o s x (K + Mo)).2.2) X) 0 0 out) : ∀ (j i : Nat), i + j = K + Mo →
    J l i_V_releaseObject 30 [(0, .ref 0), (1, .int (nI o)), (2, .int (nI (rlH o s x i).1)), (3, .int (nI s)), (4, .int (nI (o * 56 + s * (K + Mo)))), (5, .int (nI i))] [] (CA K Mo dr dl ou ol da eq al ((rlH o s x i).2.1) by_ ln ((rlH o s x i).2.2) X) 0 0 out
  | 0, i, hi => by
    have hi' : i = K + Mo := by omega
    rw [hi']
    refine J.iload d_V_releaseObject_30 rfl ?_
    refine J.aload_n d_V_releaseObject_32 rfl rfl ?_
    refine J.getfield d_V_releaseObject_33 fl_V_18 rfl rfl ?_
    refine J.getfield d_V_releaseObject_36 fl_V_142 rfl rfl ?_
    refine J.icmp_geN d_V_releaseObject_39 (tgt := 91) (by decide) (by omega) (by omega) (fun h => ?_) (fun h => ?_)
    · exact J.sub [0, 1, 2, 3] kk
    · omega
  | j + 1, i, hi => by
    have hh : i < K + Mo := by omega
    have hix := ix56 hS hs hh
    have hok := rlH_ok (o := o) (s := s) hx i
    have hle := rlH_le o s x i
    have ih := lp_V_rlH hx hx1 hS ho hs kk j (i + 1) (by omega)
    have e : rlH o s x (i + 1) = rl1 (56 * o + 7 * s + i) (rlH o s x i) := rfl
    rw [e] at ih
    generalize rlH o s x i = y at hok hle ih ⊢
    have hc := con_G_placeOf (l := l) (K := K) (Mo := Mo) (dl := dl) (ol := ol) (dr := dr) (ou := ou) (da := da) (eq := eq) (al := al) (fr := frOf y.2.1) (tk := tkOf y.2.1) (by_ := byOf by_) (ln := ln) (pl := plOf (K + Mo) y.2.2) (X := X) (r := o * 56 + s * (K + Mo)) (h := i) (by omega)
    rw [pl_at _ hS hs hh] at hc
    refine J.iload d_V_releaseObject_30 rfl ?_
    refine J.aload_n d_V_releaseObject_32 rfl rfl ?_
    refine J.getfield d_V_releaseObject_33 fl_V_18 rfl rfl ?_
    refine J.getfield d_V_releaseObject_36 fl_V_142 rfl rfl ?_
    refine J.icmp_geN d_V_releaseObject_39 (tgt := 91) (by decide) (by omega) (by omega) (fun h => ?_) (fun h => ?_)
    · omega
    refine J.aload_n d_V_releaseObject_42 rfl rfl ?_
    refine J.getfield d_V_releaseObject_43 fl_V_32 rfl rfl ?_
    refine J.iload d_V_releaseObject_46 rfl ?_
    refine J.iload d_V_releaseObject_48 rfl ?_
    rcases Nat.eq_zero_or_pos (y.2.2 (56 * o + 7 * s + i)) with h0 | h0
    · rw [h0, tr_0] at hc
      unfold rl1 at ih
      rw [if_pos h0] at ih
      refine J.v2i hc k_V_releaseObject_G_placeOf d_V_releaseObject_50 rfl rfl rfl ?_
      refine J.istore d_V_releaseObject_53 (by decide) rfl ?_
      refine J.iload d_V_releaseObject_55 rfl ?_
      refine J.iconst d_V_releaseObject_57 (v := pI 0) (by decide) ?_
      refine J.icmp_eqP d_V_releaseObject_58 (tgt := 85) (by decide) (by omega) (by omega) (fun _ => ?_) (fun q => absurd rfl q)
      refine J.iincN d_V_releaseObject_85 rfl rfl (by decide) rfl ?_
      refine J.goto d_V_releaseObject_88 (tgt := 30) (by decide) ?_
      exact J.sub [0, 1, 2, 3, 4, 5] ih
    · obtain ⟨p, ep⟩ : ∃ p, y.2.2 (56 * o + 7 * s + i) = p + 1 := ⟨y.2.2 (56 * o + 7 * s + i) - 1, by omega⟩
      have hp80 : p < 80 := by have := hok.2.2 (56 * o + 7 * s + i); omega
      have hu := hok.1.1 (56 * o + 7 * s + i) (by omega)
      rw [ep, tr_s, pI_succ] at hc
      unfold rl1 at ih
      rw [if_neg (by omega)] at ih
      rw [ep, Nat.add_sub_cancel] at hu ih
      have e10 : 10 * (p / 10) + p % 10 = p := by omega
      have hrs := con_D_releaseSlot (l := l) (K := K) (Mo := Mo) (dl := dl) (ol := ol) (dr := dr) (ou := ou) (da := da) (eq := eq) (al := al) (fr := frOf y.2.1) (tk := tkOf y.2.1) (by_ := byOf by_) (ln := ln) (pl := plOf (K + Mo) y.2.2) (X := X) (q := 16 * (p / 10) + p % 10) (by omega)
      rw [show (16 * (p / 10) + p % 10) / 16 = p / 10 by omega, tk_up _ (s := p % 10) (by omega), fr_give (d := p / 10) (s := p % 10) (by omega) (by omega) (by rw [e10]; exact hu) hok.2.1, e10] at hrs
      have hsp := con_G_setPlace (l := l) (K := K) (Mo := Mo) (dl := dl) (ol := ol) (dr := dr) (ou := ou) (da := da) (eq := eq) (al := al) (fr := frOf (up y.2.1 p 0)) (tk := tkOf (up y.2.1 p 0)) (by_ := byOf by_) (ln := ln) (pl := plOf (K + Mo) y.2.2) (X := X) (r := o * 56 + s * (K + Mo)) (h := i) (v := tr 0) (by omega)
      rw [pl_up _ hS hs hh, tr_0] at hsp
      refine J.v2i hc k_V_releaseObject_G_placeOf d_V_releaseObject_50 rfl rfl rfl ?_
      refine J.istore d_V_releaseObject_53 (by decide) rfl ?_
      refine J.iload d_V_releaseObject_55 rfl ?_
      refine J.iconst d_V_releaseObject_57 (v := pI 0) (by decide) ?_
      refine J.icmp_eqK d_V_releaseObject_58 (tgt := 85) (by decide) (by omega) ?_
      refine J.aload_n d_V_releaseObject_61 rfl rfl ?_
      refine J.getfield d_V_releaseObject_62 fl_V_25 rfl rfl ?_
      refine J.iload d_V_releaseObject_65 rfl ?_
      refine J.v1v hrs k_V_releaseObject_D_releaseSlot d_V_releaseObject_67 rfl rfl rfl ?_
      refine J.aload_n d_V_releaseObject_70 rfl rfl ?_
      refine J.getfield d_V_releaseObject_71 fl_V_32 rfl rfl ?_
      refine J.iload d_V_releaseObject_74 rfl ?_
      refine J.iload d_V_releaseObject_76 rfl ?_
      refine J.iconst d_V_releaseObject_78 (v := pI 0) (by decide) ?_
      refine J.v3v hsp k_V_releaseObject_G_setPlace d_V_releaseObject_79 rfl rfl rfl ?_
      refine J.iincN d_V_releaseObject_82 rfl rfl (by decide) rfl ?_
      refine J.iincN d_V_releaseObject_85 rfl rfl (by decide) rfl ?_
      refine J.goto d_V_releaseObject_88 (tgt := 30) (by decide) ?_
      exact J.sub [0, 1, 2, 3, 4, 5] ih
theorem lp_V_rlS {o : Nat} {x : U2} (hx : okR x) (hx1 : x.1 = 0) (hK : 0 < K) (hK4 : K ≤ 4) (hM : Mo ≤ 3) (ho : o < 6) (hln : ln o ≤ 32) : ∀ (j i : Nat), i + j = ns K (ln o) →
    J l i_V_releaseObject 4 [(0, .ref 0), (1, .int (nI o)), (2, .int (nI (rlS o (K + Mo) x i).1)), (3, .int (nI i))] [] (CA K Mo dr dl ou ol da eq al ((rlS o (K + Mo) x i).2.1) by_ ln ((rlS o (K + Mo) x i).2.2) X) 0 0 (.inl (some (.int (nI (rlS o (K + Mo) x (ns K (ln o))).1)), (CA K Mo dr dl ou ol da eq al ((rlS o (K + Mo) x (ns K (ln o))).2.1) by_ (up ln o 0) ((rlS o (K + Mo) x (ns K (ln o))).2.2) X)))
  | 0, i, hi => by
    have hn8 := ns_le hK hln
    have hi' : i = ns K (ln o) := by omega
    rw [hi']
    refine J.iload_n d_V_releaseObject_4 rfl rfl ?_
    refine J.aload_n d_V_releaseObject_5 rfl rfl ?_
    refine J.getfield d_V_releaseObject_6 fl_V_32 rfl rfl ?_
    refine J.iload_n d_V_releaseObject_9 rfl rfl ?_
    refine J.v1i (con_G_stripesOf ho hK hK4 (by omega)) k_V_releaseObject_G_stripesOf d_V_releaseObject_10 rfl rfl rfl ?_
    refine J.icmp_geN d_V_releaseObject_13 (tgt := 97) (by decide) (by omega) (by omega) (fun h => ?_) (fun h => ?_)
    · refine J.aload_n d_V_releaseObject_97 rfl rfl ?_
      refine J.getfield d_V_releaseObject_98 fl_V_32 rfl rfl ?_
      refine J.iload_n d_V_releaseObject_101 rfl rfl ?_
      refine J.v1v (con_G_strike ho) k_V_releaseObject_G_strike d_V_releaseObject_102 rfl rfl rfl ?_
      refine J.iload_n d_V_releaseObject_105 rfl rfl ?_
      exact J.ireturn d_V_releaseObject_106 rfl (by decide) (by decide)
    · omega
  | j + 1, i, hi => by
    have hn8 := ns_le hK hln
    have hS : K + Mo ≤ 7 := by omega
    have hs8 : i < 8 := by omega
    have hle := rlS_le o (K + Mo) x i
    have h56 : i * (K + Mo) ≤ 8 * 7 := Nat.mul_le_mul (by omega) hS
    have ih := lp_V_rlS hx hx1 hK hK4 hM ho hln j (i + 1) (by omega)
    have e : rlS o (K + Mo) x (i + 1) = rlH o i (rlS o (K + Mo) x i) (K + Mo) := rfl
    rw [e] at ih
    refine J.iload_n d_V_releaseObject_4 rfl rfl ?_
    refine J.aload_n d_V_releaseObject_5 rfl rfl ?_
    refine J.getfield d_V_releaseObject_6 fl_V_32 rfl rfl ?_
    refine J.iload_n d_V_releaseObject_9 rfl rfl ?_
    refine J.v1i (con_G_stripesOf ho hK hK4 (by omega)) k_V_releaseObject_G_stripesOf d_V_releaseObject_10 rfl rfl rfl ?_
    refine J.icmp_geN d_V_releaseObject_13 (tgt := 97) (by decide) (by omega) (by omega) (fun h => ?_) (fun h => ?_)
    · omega
    refine J.aload_n d_V_releaseObject_16 rfl rfl ?_
    refine J.getfield d_V_releaseObject_17 fl_V_32 rfl rfl ?_
    refine J.iload_n d_V_releaseObject_20 rfl rfl ?_
    refine J.iload_n d_V_releaseObject_21 rfl rfl ?_
    refine J.v2i con_G_rowOf k_V_releaseObject_G_rowOf d_V_releaseObject_22 rfl rfl rfl ?_
    refine J.istore d_V_releaseObject_25 (by decide) rfl ?_
    refine J.iconst d_V_releaseObject_27 (v := nI 0) (by decide) ?_
    refine J.istore d_V_releaseObject_28 (by decide) rfl ?_
    refine J.sub [0, 1, 2, 3, 4, 5] (lp_V_rlH (x := rlS o (K + Mo) x i) (rlS_ok hx i) (by omega) hS ho hs8 ?_ (K + Mo) 0 (by omega))
    refine J.iincN d_V_releaseObject_91 rfl rfl (by decide) rfl ?_
    refine J.goto d_V_releaseObject_94 (tgt := 4) (by decide) ?_
    exact ih
theorem con_V_releaseObject {o : Nat} (hx : okR (0, us, pl)) (hK : 0 < K) (hK4 : K ≤ 4) (hM : Mo ≤ 3) (ho : o < 6) (hln : ln o ≤ 32) : Con l i_V_releaseObject [.ref 0, .int (nI o)] (CA K Mo dr dl ou ol da eq al us by_ ln pl X) (.inl (some (.int (nI (rlS o (K + Mo) (0, us, pl) (ns K (ln o))).1)), (CA K Mo dr dl ou ol da eq al ((rlS o (K + Mo) (0, us, pl) (ns K (ln o))).2.1) by_ (up ln o 0) ((rlS o (K + Mo) (0, us, pl) (ns K (ln o))).2.2) X))) := by
  refine Con.of ?_
  refine J.iconst d_V_releaseObject_0 (v := nI 0) (by decide) ?_
  refine J.istore_n d_V_releaseObject_1 rfl (by decide) rfl ?_
  refine J.iconst d_V_releaseObject_2 (v := nI 0) (by decide) ?_
  refine J.istore_n d_V_releaseObject_3 rfl (by decide) rfl ?_
  exact lp_V_rlS hx rfl hK hK4 hM ho hln (ns K (ln o)) 0 (by omega)
/-- a stripe is gone -/
def gn (pl : Nat → Nat) (Mo o Sh : Nat) : Nat → Bool := fun s => decide (Mo < nl pl o s Sh)
theorem lp_V_hasGone {o : Nat} (hK : 0 < K) (hK4 : K ≤ 4) (hM : Mo ≤ 3) (ho : o < 6) (hp : ∀ i, pl i ≤ 80) (hln : ln o ≤ 32) : ∀ (j i : Nat), i + j = ns K (ln o) → anyB (gn pl Mo o (K + Mo)) i = false →
    J l i_V_hasGoneStripe 2 [(0, .ref 0), (1, .int (nI o)), (2, .int (nI i))] [] (CA K Mo dr dl ou ol da eq al us by_ ln pl X) 0 0 (.inl (some (.int (nI (b2n (anyB (gn pl Mo o (K + Mo)) (ns K (ln o)))))), (CA K Mo dr dl ou ol da eq al us by_ ln pl X)))
  | 0, i, hi, ha => by
    have hn8 := ns_le hK hln
    have hi' : i = ns K (ln o) := by omega
    rw [hi'] at ha ⊢
    refine J.iload_n d_V_hasGoneStripe_2 rfl rfl ?_
    refine J.aload_n d_V_hasGoneStripe_3 rfl rfl ?_
    refine J.getfield d_V_hasGoneStripe_4 fl_V_32 rfl rfl ?_
    refine J.iload_n d_V_hasGoneStripe_7 rfl rfl ?_
    refine J.v1i (con_G_stripesOf ho hK hK4 (by omega)) k_V_hasGoneStripe_G_stripesOf d_V_hasGoneStripe_8 rfl rfl rfl ?_
    refine J.icmp_geN d_V_hasGoneStripe_11 (tgt := 38) (by decide) (by omega) (by omega) (fun h => ?_) (fun h => ?_)
    · rw [ha]
      refine J.iconst d_V_hasGoneStripe_38 (v := nI 0) (by decide) ?_
      first | exact J.zreturn d_V_hasGoneStripe_39 rfl rfl (by decide) (by decide) | exact J.zreturnN d_V_hasGoneStripe_39 rfl (by omega) (by decide) (by decide)
    · omega
  | j + 1, i, hi, ha => by
    have hn8 := ns_le hK hln
    have hS : K + Mo ≤ 7 := by omega
    have hs8 : i < 8 := by omega
    refine J.iload_n d_V_hasGoneStripe_2 rfl rfl ?_
    refine J.aload_n d_V_hasGoneStripe_3 rfl rfl ?_
    refine J.getfield d_V_hasGoneStripe_4 fl_V_32 rfl rfl ?_
    refine J.iload_n d_V_hasGoneStripe_7 rfl rfl ?_
    refine J.v1i (con_G_stripesOf ho hK hK4 (by omega)) k_V_hasGoneStripe_G_stripesOf d_V_hasGoneStripe_8 rfl rfl rfl ?_
    refine J.icmp_geN d_V_hasGoneStripe_11 (tgt := 38) (by decide) (by omega) (by omega) (fun h => ?_) (fun h => ?_)
    · omega
    refine J.aload_n d_V_hasGoneStripe_14 rfl rfl ?_
    refine J.aload_n d_V_hasGoneStripe_15 rfl rfl ?_
    refine J.getfield d_V_hasGoneStripe_16 fl_V_32 rfl rfl ?_
    refine J.iload_n d_V_hasGoneStripe_19 rfl rfl ?_
    refine J.iload_n d_V_hasGoneStripe_20 rfl rfl ?_
    refine J.v2i con_G_rowOf k_V_hasGoneStripe_G_rowOf d_V_hasGoneStripe_21 rfl rfl rfl ?_
    refine J.v1i (con_V_isGone hS ho hs8 hp) k_V_hasGoneStripe_V_isGone d_V_hasGoneStripe_24 rfl rfl rfl ?_
    by_cases hg : Mo < nl pl o i (K + Mo)
    · rw [if_pos hg, anyB_true (p := gn pl Mo o (K + Mo)) (i := i) (by simpa [gn] using hg) (ns K (ln o)) (by omega)]
      refine J.if_eqN d_V_hasGoneStripe_27 (tgt := 32) (by decide) (by omega) (fun h3 => ?_) (fun h3 => ?_)
      · exact absurd h3 (by decide)
      · refine J.iconst d_V_hasGoneStripe_30 (v := nI 1) (by decide) ?_
        first | exact J.zreturn d_V_hasGoneStripe_31 rfl rfl (by decide) (by decide) | exact J.zreturnN d_V_hasGoneStripe_31 rfl (by omega) (by decide) (by decide)
    · rw [if_neg hg]
      refine J.if_eqN d_V_hasGoneStripe_27 (tgt := 32) (by decide) (by omega) (fun h3 => ?_) (fun h3 => ?_)
      · refine J.iincN d_V_hasGoneStripe_32 rfl rfl (by decide) rfl ?_
        refine J.goto d_V_hasGoneStripe_35 (tgt := 2) (by decide) ?_
        exact lp_V_hasGone hK hK4 hM ho hp hln j (i + 1) (by omega) (anyB_not (by simpa [gn] using hg) ha)
      · exact absurd rfl h3
theorem con_V_hasGoneStripe {o : Nat} (hK : 0 < K) (hK4 : K ≤ 4) (hM : Mo ≤ 3) (ho : o < 6) (hp : ∀ i, pl i ≤ 80) (hln : ln o ≤ 32) : Con l i_V_hasGoneStripe [.ref 0, .int (nI o)] (CA K Mo dr dl ou ol da eq al us by_ ln pl X) (.inl (some (.int (nI (b2n (anyB (gn pl Mo o (K + Mo)) (ns K (ln o)))))), (CA K Mo dr dl ou ol da eq al us by_ ln pl X))) := by
  refine Con.of ?_
  refine J.iconst d_V_hasGoneStripe_0 (v := nI 0) (by decide) ?_
  refine J.istore_n d_V_hasGoneStripe_1 rfl (by decide) rfl ?_
  exact lp_V_hasGone hK hK4 hM ho hp hln (ns K (ln o)) 0 (by omega) rfl
end OBJ
