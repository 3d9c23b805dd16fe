/-! repair, and the loops of get and check: the class's side -/
section LOOPS
variable {l : Launch} {K Mo dl ol : Nat} {dr ou da eq al us by_ ln pl : Nat → Nat} {X : List va_E}
/-- the equations, how many were placed, what is there -/
abbrev Q4 : Type := ED × Nat × U3
def rpq (K Mo : Nat) (al : Nat → Nat) (o s : Nat) (x : Q4) : Q4 :=
  if Mo < nl x.2.2.2.2 o s (K + Mo) ∨ nl x.2.2.2.2 o s (K + Mo) = 0 then x else
    (rdC K (K + Mo) (lsB x.2.2.2.2 o s) (vb x.2.2.2.2 x.2.2.2.1 o s) x.1.1 x.1.2,
     x.2.1 + (rpS K (rdC K (K + Mo) (lsB x.2.2.2.2 o s) (vb x.2.2.2.2 x.2.2.2.1 o s) x.1.1 x.1.2).2 al o s (K + Mo) x.2.2 (K + Mo)).1,
     (rpS K (rdC K (K + Mo) (lsB x.2.2.2.2 o s) (vb x.2.2.2.2 x.2.2.2.1 o s) x.1.1 x.1.2).2 al o s (K + Mo) x.2.2 (K + Mo)).2)
def rpt (K Mo : Nat) (al : Nat → Nat) (o : Nat) (x : Q4) : Nat → Q4
  | 0 => x
  | s + 1 => rpq K Mo al o s (rpt K Mo al o x s)
def rpo (K Mo : Nat) (al ln : Nat → Nat) (x : Q4) : Nat → Q4
  | 0 => x
  | o + 1 => rpt K Mo al o (rpo K Mo al ln x o) (ns K (ln o))
def okQ (x : Q4) : Prop := b256 x.1 ∧ okU x.2.2
theorem rpq_ok {K Mo : Nat} {al : Nat → Nat} {o s : Nat} {x : Q4} (h : okQ x) : okQ (rpq K Mo al o s x) ∧ (rpq K Mo al o s x).2.1 ≤ x.2.1 + (K + Mo) := by
  unfold rpq; split
  · exact ⟨h, by omega⟩
  · have hb := rdC_b (K := K) (Sh := K + Mo) (ls := lsB x.2.2.2.2 o s) (v := vb x.2.2.2.2 x.2.2.2.1 o s) h.1.1 h.1.2 (fun _ _ => h.2.2.1 _)
    have hr := rpS_ok (K := K) (al := al) (o := o) (s := s) (Sh := K + Mo) h.2 hb.2 (K + Mo)
    exact ⟨⟨hb, hr.1⟩, by have := hr.2; show _ + _ ≤ _; omega⟩
theorem rpt_ok {K Mo : Nat} {al : Nat → Nat} {o : Nat} {x : Q4} (h : okQ x) : ∀ n, okQ (rpt K Mo al o x n) ∧ (rpt K Mo al o x n).2.1 ≤ x.2.1 + n * (K + Mo)
  | 0 => ⟨h, by simp [rpt]⟩
  | n + 1 => by
    have ih := rpt_ok (K := K) (Mo := Mo) (al := al) (o := o) h n
    have := rpq_ok (K := K) (Mo := Mo) (al := al) (o := o) (s := n) ih.1
    refine ⟨this.1, ?_⟩
    rw [Nat.succ_mul]
    show (rpq _ _ _ _ _ _).2.1 ≤ _
    omega
theorem rpo_ok {K Mo : Nat} {al ln : Nat → Nat} {x : Q4} (hK : 0 < K) (hS : K + Mo ≤ 7) (hln : ∀ o, ln o ≤ 32) (h : okQ x) : ∀ n, okQ (rpo K Mo al ln x n) ∧ (rpo K Mo al ln x n).2.1 ≤ x.2.1 + n * 56
  | 0 => ⟨h, by simp [rpo]⟩
  | n + 1 => by
    have ih := rpo_ok (al := al) hK hS hln h n
    have := rpt_ok (K := K) (Mo := Mo) (al := al) (o := n) ih.1 (ns K (ln n))
    have h8 := ns_le hK (hln n)
    have h9 : ns K (ln n) * (K + Mo) ≤ 8 * 7 := Nat.mul_le_mul h8 hS
    refine ⟨this.1, ?_⟩
    show (rpt _ _ _ _ _ _).2.1 ≤ _
    omega
theorem lp_V_rpt {o : Nat} {x : Q4} (hx : okQ x) (hc : x.2.1 ≤ 1000) (hK : 0 < K) (hK4 : K ≤ 4) (hM0 : 0 < Mo) (hM : Mo ≤ 3) (ho : o < 6) (ha : ∀ i, al i < 2) (hln : ln o ≤ 32) {out : Out}
    (kk : J l i_V_repair 46 [(0, .ref 0), (1, .int (nI (rpt K Mo al o x (ns K (ln o))).2.1)), (2, .int (nI o))] [] (CA K Mo dr dl ou ol ((rpt K Mo al o x (ns K (ln o))).1.2) ((rpt K Mo al o x (ns K (ln o))).1.1) al ((rpt K Mo al o x (ns K (ln o))).2.2.1) ((rpt K Mo al o x (ns K (ln o))).2.2.2.1) ln ((rpt K Mo al o x (ns K (ln o))).2.2.2.2) X) 0 0 out) : ∀ (j i : Nat), i + j = ns K (ln o) →
    J l i_V_repair 12 [(0, .ref 0), (1, .int (nI (rpt K Mo al o x i).2.1)), (2, .int (nI o)), (3, .int (nI i))] [] (CA K Mo dr dl ou ol ((rpt K Mo al o x i).1.2) ((rpt K Mo al o x i).1.1) al ((rpt K Mo al o x i).2.2.1) ((rpt K Mo al o x i).2.2.2.1) ln ((rpt K Mo al o x i).2.2.2.2) X) 0 0 out
  | 0, i, hi => by
    have hn8 := ns_le hK hln
    have hi' : i = ns K (ln o) := by omega
    rw [hi']
    refine J.iload_n d_V_repair_12 rfl rfl ?_
    refine J.aload_n d_V_repair_13 rfl rfl ?_
    refine J.getfield d_V_repair_14 fl_V_32 rfl rfl ?_
    refine J.iload_n d_V_repair_17 rfl rfl ?_
    refine J.v1i (con_G_stripesOf ho hK hK4 (by omega)) k_V_repair_G_stripesOf d_V_repair_18 rfl rfl rfl ?_
    refine J.icmp_geN d_V_repair_21 (tgt := 46) (by decide) (by omega) (by omega) (fun h => ?_) (fun h => ?_)
    · exact J.sub [0, 1, 2] kk
    · omega
  | j + 1, i, hi => by
    have hn8 := ns_le hK hln
    have hS : K + Mo ≤ 7 := by omega
    have hs8 : i < 8 := by omega
    have hok := rpt_ok (K := K) (Mo := Mo) (al := al) (o := o) hx i
    have h56 : i * (K + Mo) ≤ 8 * 7 := Nat.mul_le_mul (by omega) hS
    have ih := lp_V_rpt hx hc hK hK4 hM0 hM ho ha hln kk j (i + 1) (by omega)
    have e : rpt K Mo al o x (i + 1) = rpq K Mo al o i (rpt K Mo al o x i) := rfl
    rw [e] at ih
    generalize rpt K Mo al o x i = y at hok ih ⊢
    refine J.iload_n d_V_repair_12 rfl rfl ?_
    refine J.aload_n d_V_repair_13 rfl rfl ?_
    refine J.getfield d_V_repair_14 fl_V_32 rfl rfl ?_
    refine J.iload_n d_V_repair_17 rfl rfl ?_
    refine J.v1i (con_G_stripesOf ho hK hK4 (by omega)) k_V_repair_G_stripesOf d_V_repair_18 rfl rfl rfl ?_
    refine J.icmp_geN d_V_repair_21 (tgt := 46) (by decide) (by omega) (by omega) (fun h => ?_) (fun h => ?_)
    · omega
    refine J.iload_n d_V_repair_24 rfl rfl ?_
    refine J.aload_n d_V_repair_25 rfl rfl ?_
    refine J.aload_n d_V_repair_26 rfl rfl ?_
    refine J.getfield d_V_repair_27 fl_V_32 rfl rfl ?_
    refine J.iload_n d_V_repair_30 rfl rfl ?_
    refine J.iload_n d_V_repair_31 rfl rfl ?_
    refine J.v2i con_G_rowOf k_V_repair_G_rowOf d_V_repair_32 rfl rfl rfl ?_
    by_cases hg : Mo < nl y.2.2.2.2 o i (K + Mo) ∨ nl y.2.2.2.2 o i (K + Mo) = 0
    · unfold rpq at ih
      rw [if_pos hg] at ih
      refine J.v1i (con_V_repairStripe0 hK hS ho hs8 hok.1.2.2.2 hg) k_V_repair_V_repairStripe d_V_repair_35 rfl rfl rfl ?_
      refine J.iaddN d_V_repair_38 ?_
      refine J.istore_n d_V_repair_39 rfl (by decide) rfl ?_
      refine J.iincN d_V_repair_40 rfl rfl (by decide) rfl ?_
      refine J.goto d_V_repair_43 (tgt := 12) (by decide) ?_
      exact ih
    · unfold rpq at ih
      rw [if_neg hg] at ih
      refine J.v1i (con_V_repairStripe hK hK4 hM ho hs8 hok.1.2 ha (selOk_nl hK hK4 hM0 hM (by omega)) hok.1.1.1 hok.1.1.2 (by omega) (by omega)) k_V_repair_V_repairStripe d_V_repair_35 rfl rfl rfl ?_
      refine J.iaddN d_V_repair_38 ?_
      refine J.istore_n d_V_repair_39 rfl (by decide) rfl ?_
      refine J.iincN d_V_repair_40 rfl rfl (by decide) rfl ?_
      refine J.goto d_V_repair_43 (tgt := 12) (by decide) ?_
      exact ih
theorem lp_V_rpo {x : Q4} (hx : okQ x) (hc : x.2.1 = 0) (hK : 0 < K) (hK4 : K ≤ 4) (hM0 : 0 < Mo) (hM : Mo ≤ 3) (ha : ∀ i, al i < 2) (hln : ∀ o, ln o ≤ 32) : ∀ (j i : Nat), i + j = 6 →
    J l i_V_repair 4 [(0, .ref 0), (1, .int (nI (rpo K Mo al ln x i).2.1)), (2, .int (nI i))] [] (CA K Mo dr dl ou ol ((rpo K Mo al ln x i).1.2) ((rpo K Mo al ln x i).1.1) al ((rpo K Mo al ln x i).2.2.1) ((rpo K Mo al ln x i).2.2.2.1) ln ((rpo K Mo al ln x i).2.2.2.2) X) 0 0 (.inl (some (.int (nI (rpo K Mo al ln x 6).2.1)), (CA K Mo dr dl ou ol ((rpo K Mo al ln x 6).1.2) ((rpo K Mo al ln x 6).1.1) al ((rpo K Mo al ln x 6).2.2.1) ((rpo K Mo al ln x 6).2.2.2.1) ln ((rpo K Mo al ln x 6).2.2.2.2) X)))
  | 0, i, hi => by
    have hi' : i = 6 := by omega
    rw [hi']
    refine J.iload_n d_V_repair_4 rfl rfl ?_
    refine J.bipush d_V_repair_5 (v := nI 6) (by decide) ?_
    refine J.icmp_geN d_V_repair_7 (tgt := 52) (by decide) (by omega) (by omega) (fun h => ?_) (fun h => ?_)
    · refine J.iload_n d_V_repair_52 rfl rfl ?_
      exact J.ireturn d_V_repair_53 rfl (by decide) (by decide)
    · omega
  | j + 1, i, hi => by
    have hS : K + Mo ≤ 7 := by omega
    have hok := rpo_ok (al := al) hK hS hln hx i
    have ih := lp_V_rpo hx hc hK hK4 hM0 hM ha hln j (i + 1) (by omega)
    have e : rpo K Mo al ln x (i + 1) = rpt K Mo al i (rpo K Mo al ln x i) (ns K (ln i)) := rfl
    rw [e] at ih
    refine J.iload_n d_V_repair_4 rfl rfl ?_
    refine J.bipush d_V_repair_5 (v := nI 6) (by decide) ?_
    refine J.icmp_geN d_V_repair_7 (tgt := 52) (by decide) (by omega) (by omega) (fun h => ?_) (fun h => ?_)
    · omega
    refine J.iconst d_V_repair_10 (v := nI 0) (by decide) ?_
    refine J.istore_n d_V_repair_11 rfl (by decide) rfl ?_
    refine lp_V_rpt (x := rpo K Mo al ln x i) hok.1 (by omega) hK hK4 hM0 hM (by omega) ha (hln i) ?_ (ns K (ln i)) 0 (by omega)
    refine J.iincN d_V_repair_46 rfl rfl (by decide) rfl ?_
    refine J.goto d_V_repair_49 (tgt := 4) (by decide) ?_
    exact ih
theorem con_V_repair (hx : okU (us, by_, pl)) (he : ∀ i, eq i < 256) (hda : ∀ i, da i < 256) (hK : 0 < K) (hK4 : K ≤ 4) (hM0 : 0 < Mo) (hM : Mo ≤ 3) (ha : ∀ i, al i < 2) (hln : ∀ o, ln o ≤ 32) : Con l i_V_repair [.ref 0] (CA K Mo dr dl ou ol da eq al us by_ ln pl X) (.inl (some (.int (nI (rpo K Mo al ln ((eq, da), 0, us, by_, pl) 6).2.1)), (CA K Mo dr dl ou ol ((rpo K Mo al ln ((eq, da), 0, us, by_, pl) 6).1.2) ((rpo K Mo al ln ((eq, da), 0, us, by_, pl) 6).1.1) al ((rpo K Mo al ln ((eq, da), 0, us, by_, pl) 6).2.2.1) ((rpo K Mo al ln ((eq, da), 0, us, by_, pl) 6).2.2.2.1) ln ((rpo K Mo al ln ((eq, da), 0, us, by_, pl) 6).2.2.2.2) X))) := by
  refine Con.of ?_
  refine J.iconst d_V_repair_0 (v := nI 0) (by decide) ?_
  refine J.istore_n d_V_repair_1 rfl (by decide) rfl ?_
  refine J.iconst d_V_repair_2 (v := nI 0) (by decide) ?_
  refine J.istore_n d_V_repair_3 rfl (by decide) rfl ?_
  exact lp_V_rpo (x := ((eq, da), 0, us, by_, pl)) ⟨⟨he, hda⟩, hx⟩ rfl hK hK4 hM0 hM ha hln 6 0 (by omega)
end LOOPS
