/-! .. of the disks, the catalogue and the whole -/
def al0 : Nat → Nat := fun i => if i < 8 then 1 else 0
def upN (v n : Nat) : Nat → Nat := fun i => if i < n then v else 0
theorem upN_up {v n : Nat} : up (upN v n) n v = upN v (n + 1) := by
  funext i
  unfold up upN
  by_cases h : i = n
  · subst h; simp
  · have : (i < n + 1) ↔ i < n := by omega
    simp only [h, this, if_false]
theorem upN_0 (v : Nat) : upN v 0 = z0 := by funext i; unfold upN; rw [if_neg (Nat.not_lt_zero _)]; rfl
def MD (L : Nat) (xs : Nat → Int32) (K Mo : Nat) (cf : Value) (al fr : Nat → Nat) : List va_E := [.inr (0, [cf, .null, .null, .null, .int 0, .null, .int 0]), .inr (1, [.int (nI K), .int (nI (K + Mo)), .int (nI (4 * K)), .ref 2, .ref 4, .ref 3]), aI (4 * K) z0, aI (K * K) z0, aI ((K + Mo) * K) (fac K), .inr (2, [.ref 6, .ref 7, .ref 8, .ref 9]), aZ 8 al, aI 8 fr, aZ 128 z0, aI 512 z0]
section INITV
variable {l : Launch} {K Mo L : Nat} {xs : Nat → Int32}
theorem lp_D_ini : ∀ (j i : Nat), i + j = 8 →
    J l i_D_init 40 [(0, .ref 5), (1, .int (nI i))] [] (MD L xs K Mo (.ref 1) (upN 1 i) (upN 10 i)) 4 656 (.inl (none, MD L xs K Mo (.ref 1) (upN 1 8) (upN 10 8)))
  | 0, i, hi => by
    have hi' : i = 8 := by omega
    rw [hi']
    refine J.iload_n d_D_init_40 rfl rfl ?_
    refine J.bipush d_D_init_41 (v := nI 8) (by decide) ?_
    refine J.icmp_geN d_D_init_43 (tgt := 67) (by decide) (by omega) (by omega) (fun h => ?_) (fun h => ?_)
    · exact J.vreturn d_D_init_67 rfl (by decide) (by decide)
    · omega
  | j + 1, i, hi => by
    have ih := lp_D_ini j (i + 1) (by omega)
    rw [← upN_up, ← upN_up] at ih
    refine J.iload_n d_D_init_40 rfl rfl ?_
    refine J.bipush d_D_init_41 (v := nI 8) (by decide) ?_
    refine J.icmp_geN d_D_init_43 (tgt := 67) (by decide) (by omega) (by omega) (fun h => ?_) (fun h => ?_)
    · omega
    refine J.aload_n d_D_init_46 rfl rfl ?_
    refine J.getfield d_D_init_47 fl_D_9 rfl rfl ?_
    refine J.iload_n d_D_init_50 rfl rfl ?_
    refine J.iconst d_D_init_51 (v := nI 1) (by decide) ?_
    refine J.bastoreN d_D_init_52 rfl (by omega) (by omega) (by omega) ?_
    refine J.aload_n d_D_init_53 rfl rfl ?_
    refine J.getfield d_D_init_54 fl_D_15 rfl rfl ?_
    refine J.iload_n d_D_init_57 rfl rfl ?_
    refine J.bipush d_D_init_58 (v := nI 10) (by decide) ?_
    refine J.iastoreN d_D_init_60 rfl (by omega) (by omega) ?_
    refine J.iincN d_D_init_61 rfl rfl (by decide) rfl ?_
    refine J.goto d_D_init_64 (tgt := 40) (by decide) ?_
    exact ih
theorem con_D_init : Con l i_D_init [.ref 5] [.inr (0, [.ref 1, .null, .null, .null, .int 0, .null, .int 0]), .inr (1, [.int (nI K), .int (nI (K + Mo)), .int (nI (4 * K)), .ref 2, .ref 4, .ref 3]), aI (4 * K) z0, aI (K * K) z0, aI ((K + Mo) * K) (fac K), .inr (2, [.null, .null, .null, .null])] (.inl (none, MD L xs K Mo (.ref 1) (upN 1 8) (upN 10 8))) := by
  have h1 := lp_D_ini (l := l) (L := L) (xs := xs) (K := K) (Mo := Mo) 8 0 (by omega)
  rw [upN_0, upN_0] at h1
  refine Con.of ?_
  refine J.aload_n d_D_init_0 rfl rfl ?_
  refine J.objInit d_D_init_1 oi_D (by decide) (by decide) ?_
  refine J.aload_n d_D_init_4 rfl rfl ?_
  refine J.bipush d_D_init_5 (v := nI 8) (by decide) ?_
  refine J.newZ d_D_init_7 (by omega) rfl rfl rfl (by decide) (by decide) ?_
  refine J.putfield d_D_init_9 fs_D_9 rfl (Nat.le_of_ble_eq_true rfl) rfl rfl ?_
  refine J.aload_n d_D_init_12 rfl rfl ?_
  refine J.bipush d_D_init_13 (v := nI 8) (by decide) ?_
  refine J.newI d_D_init_15 (by omega) rfl rfl rfl (by decide) (by decide) ?_
  refine J.putfield d_D_init_17 fs_D_15 rfl (Nat.le_of_ble_eq_true rfl) rfl rfl ?_
  refine J.aload_n d_D_init_20 rfl rfl ?_
  refine J.sipush d_D_init_21 (v := nI 128) (by decide) ?_
  refine J.newZ d_D_init_24 (by omega) rfl rfl rfl (by decide) (by decide) ?_
  refine J.putfield d_D_init_26 fs_D_19 rfl (Nat.le_of_ble_eq_true rfl) rfl rfl ?_
  refine J.aload_n d_D_init_29 rfl rfl ?_
  refine J.sipush d_D_init_30 (v := nI 512) (by decide) ?_
  refine J.newI d_D_init_33 (by omega) rfl rfl rfl (by decide) (by decide) ?_
  refine J.putfield d_D_init_35 fs_D_22 rfl (Nat.le_of_ble_eq_true rfl) rfl rfl ?_
  refine J.iconst d_D_init_38 (v := nI 0) (by decide) ?_
  refine J.istore_n d_D_init_39 rfl (by decide) rfl ?_
  exact h1
def MG (L : Nat) (xs : Nat → Int32) (K Mo : Nat) : List va_E := [.inr (0, [.ref 1, .ref 5, .null, .null, .int 0, .null, .int 0]), .inr (1, [.int (nI K), .int (nI (K + Mo)), .int (nI (4 * K)), .ref 2, .ref 4, .ref 3]), aI (4 * K) z0, aI (K * K) z0, aI ((K + Mo) * K) (fac K), .inr (2, [.ref 6, .ref 7, .ref 8, .ref 9]), aZ 8 al0, aI 8 (frOf z0), aZ 128 (tkOf z0), aI 512 (byOf z0)]
theorem al0_eq : upN 1 8 = al0 := rfl
theorem ud_z0 (d : Nat) : ud z0 d = 0 := rfl
theorem fr0_eq : upN 10 8 = frOf z0 := by
  funext d
  unfold upN frOf
  rw [ud_z0]
theorem tk0_eq : z0 = tkOf z0 := by funext i; unfold tkOf; split <;> rfl
theorem by0_eq : z0 = byOf z0 := by funext i; unfold byOf; split <;> rfl
theorem pl0_eq (Sh : Nat) : plOf Sh z0 = z0 := by funext i; unfold plOf; split <;> rfl
theorem MD_MG : MD L xs K Mo (.ref 1) (upN 1 8) (upN 10 8) = ([.inr (0, [.ref 1, .null, .null, .null, .int 0, .null, .int 0]), .inr (1, [.int (nI K), .int (nI (K + Mo)), .int (nI (4 * K)), .ref 2, .ref 4, .ref 3]), aI (4 * K) z0, aI (K * K) z0, aI ((K + Mo) * K) (fac K), .inr (2, [.ref 6, .ref 7, .ref 8, .ref 9]), aZ 8 al0, aI 8 (frOf z0), aZ 128 (tkOf z0), aI 512 (byOf z0)] : List va_E) := by
  rw [al0_eq, fr0_eq, ← tk0_eq, ← by0_eq]
  rfl
theorem con_G_init (hK : 0 < K) (hK4 : K ≤ 4) : Con l i_G_init [.ref 10, .int (nI K), .int (nI (K + Mo))] (MG L xs K Mo ++ [.inr (3, [.int 0, .int 0, .null, .null])]) (.inl (none, MG L xs K Mo ++ [.inr (3, [.int (nI (K + Mo)), .int (nI (4 * K)), .ref 11, .ref 12]), aI 6 z0, aP 336 (plOf (K + Mo) z0)])) := by
  have hf := con_A_fill (l := l) (q := 12) (N := 336) (x := pI 0) (f := fun _ => nI 0) (M := MG L xs K Mo ++ [.inr (3, [.int (nI (K + Mo)), .int (nI (4 * K)), .ref 11, .ref 12]), aI 6 z0, aI 336 z0]) rfl (by decide)
  rw [pl0_eq]
  refine Con.of ?_
  refine J.aload_n d_G_init_0 rfl rfl ?_
  refine J.objInit d_G_init_1 oi_G (by decide) (by decide) ?_
  refine J.aload_n d_G_init_4 rfl rfl ?_
  refine J.iload_n d_G_init_5 rfl rfl ?_
  refine J.putfield d_G_init_6 fs_G_9 rfl (Nat.le_of_ble_eq_true rfl) rfl rfl ?_
  refine J.aload_n d_G_init_9 rfl rfl ?_
  refine J.iconst d_G_init_10 (v := nI 4) (by decide) ?_
  refine J.iload_n d_G_init_11 rfl rfl ?_
  refine J.imulN d_G_init_12 ?_
  refine J.putfield d_G_init_13 fs_G_15 rfl (Nat.le_of_ble_eq_true rfl) rfl rfl ?_
  refine J.aload_n d_G_init_16 rfl rfl ?_
  refine J.bipush d_G_init_17 (v := nI 6) (by decide) ?_
  refine J.newI d_G_init_19 (by omega) rfl rfl rfl (by decide) (by decide) ?_
  refine J.putfield d_G_init_21 fs_G_18 rfl (Nat.le_of_ble_eq_true rfl) rfl rfl ?_
  refine J.aload_n d_G_init_24 rfl rfl ?_
  refine J.sipush d_G_init_25 (v := nI 336) (by decide) ?_
  refine J.newI d_G_init_28 (by omega) rfl rfl rfl (by decide) (by decide) ?_
  refine J.putfield d_G_init_30 fs_G_22 rfl (Nat.le_of_ble_eq_true rfl) rfl rfl ?_
  refine J.aload_n d_G_init_33 rfl rfl ?_
  refine J.getfield d_G_init_34 fl_G_22 rfl rfl ?_
  refine J.iconst d_G_init_37 (v := pI 0) (by decide) ?_
  refine J.s2v hf k_G_init_A_fill d_G_init_38 rfl ?_
  refine J.setA (q := 12) (g := fun j => pI (z0 j)) rfl (fun j hj => ?_) ?_
  · show (if j < 336 then pI 0 else nI 0) = pI 0
    rw [if_pos hj]
  exact J.vreturn d_G_init_41 rfl (by decide) (by decide)
/-- the class's memory as it is made: the script ahead of it -/
def CS (L : Nat) (xs : Nat → Int32) (K Mo : Nat) : List va_E := [.inr (0, [.ref 1, .ref 5, .ref 10, .ref 13, .int (nI 0), .ref 14, .int (nI 0)]), .inr (1, [.int (nI K), .int (nI (K + Mo)), .int (nI (4 * K)), .ref 2, .ref 4, .ref 3]), aI (4 * K) z0, aI (K * K) z0, aI ((K + Mo) * K) (fac K), .inr (2, [.ref 6, .ref 7, .ref 8, .ref 9]), aZ 8 al0, aI 8 (frOf z0), aZ 128 (tkOf z0), aI 512 (byOf z0),
  .inr (3, [.int (nI (K + Mo)), .int (nI (4 * K)), .ref 11, .ref 12]), aI 6 z0, aP 336 (plOf (K + Mo) z0), aI 32 z0, aI 32 z0]
theorem con_V_init {x y : Int32} (hx : nr x 4 = K) (hy : nr y 3 = Mo) : Con l i_V_init [.ref 0, .int x, .int y] [v0] (.inl (none, CS L xs K Mo)) := by
  have hKb := nr_b (x := x) (m := 4) (by decide) (by decide)
  have hMb := nr_b (x := y) (m := 3) (by decide) (by decide)
  rw [hx] at hKb
  rw [hy] at hMb
  have hc := con_C_init (l := l) (K := K) (Mo := Mo) (L := L) (xs := xs) (by omega) (by omega) (by omega)
  have hd := con_D_init (l := l) (K := K) (Mo := Mo) (L := L) (xs := xs)
  rw [MD_MG] at hd
  have hg := con_G_init (l := l) (K := K) (Mo := Mo) (L := L) (xs := xs) (by omega) (by omega)
  refine Con.of ?_
  refine J.aload_n d_V_init_0 rfl rfl ?_
  refine J.objInit d_V_init_1 oi_V (by decide) (by decide) ?_
  refine J.iload_n d_V_init_4 rfl rfl ?_
  refine J.iconst d_V_init_5 (v := nI 4) (by decide) ?_
  refine J.s2i (con_V_nearest (by decide) (by decide) _) k_V_init_V_nearest d_V_init_6 rfl ?_
  rw [hx]
  refine J.istore_n d_V_init_9 rfl (by decide) rfl ?_
  refine J.iload_n d_V_init_10 rfl rfl ?_
  refine J.iload_n d_V_init_11 rfl rfl ?_
  refine J.iconst d_V_init_12 (v := nI 3) (by decide) ?_
  refine J.s2i (con_V_nearest (by decide) (by decide) _) k_V_init_V_nearest d_V_init_13 rfl ?_
  rw [hy]
  refine J.iaddN d_V_init_16 ?_
  refine J.istore d_V_init_17 (by decide) rfl ?_
  refine J.aload_n d_V_init_19 rfl rfl ?_
  refine J.new d_V_init_20 nw_V_13 rfl rfl rfl (by decide) (by decide) ?_
  refine J.dup d_V_init_23 rfl ?_
  refine J.iload_n d_V_init_24 rfl rfl ?_
  refine J.iload d_V_init_25 rfl ?_
  refine J.invokespecial (b := 1) (as := [.int (nI K), .int (nI (K + Mo))]) (rest := [.ref 1, .ref 0]) hc k_V_init_C_init d_V_init_27 rfl (by decide) (by decide) (Or.inr ⟨Nat.le_of_ble_eq_true rfl, rfl, rfl⟩) ?_
  refine J.putfield d_V_init_30 fs_V_18 rfl (Nat.le_of_ble_eq_true rfl) rfl rfl ?_
  refine J.aload_n d_V_init_33 rfl rfl ?_
  refine J.new d_V_init_34 nw_V_22 rfl rfl rfl (by decide) (by decide) ?_
  refine J.dup d_V_init_37 rfl ?_
  refine J.invokespecial (b := 5) (as := []) (rest := [.ref 5, .ref 0]) hd k_V_init_D_init d_V_init_38 rfl (by decide) (by decide) (Or.inr ⟨Nat.le_of_ble_eq_true rfl, rfl, rfl⟩) ?_
  refine J.putfield d_V_init_41 fs_V_25 rfl (Nat.le_of_ble_eq_true rfl) rfl rfl ?_
  refine J.aload_n d_V_init_44 rfl rfl ?_
  refine J.new d_V_init_45 nw_V_29 rfl rfl rfl (by decide) (by decide) ?_
  refine J.dup d_V_init_48 rfl ?_
  refine J.iload_n d_V_init_49 rfl rfl ?_
  refine J.iload d_V_init_50 rfl ?_
  refine J.invokespecial (b := 10) (as := [.int (nI K), .int (nI (K + Mo))]) (rest := [.ref 10, .ref 0]) hg k_V_init_G_init d_V_init_52 rfl (by decide) (by decide) (Or.inr ⟨Nat.le_of_ble_eq_true rfl, rfl, rfl⟩) ?_
  refine J.putfield d_V_init_55 fs_V_32 rfl (Nat.le_of_ble_eq_true rfl) rfl rfl ?_
  refine J.aload_n d_V_init_58 rfl rfl ?_
  refine J.bipush d_V_init_59 (v := nI 32) (by decide) ?_
  refine J.newI d_V_init_61 (by omega) rfl rfl rfl (by decide) (by decide) ?_
  refine J.putfield d_V_init_63 fs_V_36 rfl (Nat.le_of_ble_eq_true rfl) rfl rfl ?_
  refine J.aload_n d_V_init_66 rfl rfl ?_
  refine J.iconst d_V_init_67 (v := nI 0) (by decide) ?_
  refine J.putfield d_V_init_68 (fs_V_40 _) rfl (Nat.le_of_ble_eq_true rfl) rfl rfl ?_
  refine J.aload_n d_V_init_71 rfl rfl ?_
  refine J.bipush d_V_init_72 (v := nI 32) (by decide) ?_
  refine J.newI d_V_init_74 (by omega) rfl rfl rfl (by decide) (by decide) ?_
  refine J.putfield d_V_init_76 fs_V_44 rfl (Nat.le_of_ble_eq_true rfl) rfl rfl ?_
  refine J.aload_n d_V_init_79 rfl rfl ?_
  refine J.iconst d_V_init_80 (v := nI 0) (by decide) ?_
  refine J.putfield d_V_init_81 (fs_V_47 _) rfl (Nat.le_of_ble_eq_true rfl) rfl rfl ?_
  exact J.vreturn d_V_init_84 rfl (by decide) (by decide)
end INITV
