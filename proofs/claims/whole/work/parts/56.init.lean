/-! The class's constructors -/
section CELL
variable {l : Launch} {I : MI} {pc : Nat} {lv : List (Nat × Value)} {st : List Value} {M : List va_E} {k n : Nat} {out : Out}
/-- an array's function, beyond the array's end, may be any -/
theorem J.setA {q t N : Nat} {f g : Nat → Int32} (hM : M[q]? = some (.inl (t, N, .inl f))) (hfg : ∀ j, j < N → f j = g j) (kk : J l I pc lv st (M.set q (.inl (t, N, .inl g))) k n out) : J l I pc lv st M k n out := by
  intro D cA ad p e s m args below meth c A locs H ls h
  have hc : ∀ c9 : ClassId, vp_cell c9 (N, .inl f) = vp_cell c9 (N, .inl g) := fun c9 => by
    show arrV c9 N (fun j => .int (f j)) = arrV c9 N (fun j => .int (g j))
    unfold arrV
    congr 1
    congr 1
    funext j
    show Value.int (f j.val) = Value.int (g j.val)
    rw [hfg j.val j.isLt]
  have hq := (List.getElem?_eq_some_iff.mp hM).1
  obtain ⟨a1, a2, a3, a4, a5, a6, a7, a8, a9, a10, a11, a12, a13, a14, a15, a16⟩ := h
  have at1 : ∀ j x, (pw ad cA (M.set q (.inl (t, N, .inl g))))[j]? = some x → j ≠ q → (pw ad cA M)[j]? = some x := fun j x hx hj => by
    rw [← pw_set, List.getElem?_set, if_neg (fun z => hj z.symm)] at hx
    exact hx
  have at2 : ∀ x, (pw ad cA (M.set q (.inl (t, N, .inl g))))[q]? = some x → x = (ad q, .inl (cA t, N, .inl g)) := fun x hx => by
    rw [pw_at (e := .inl (t, N, .inl g)) (by rw [List.getElem?_set, if_pos rfl, if_pos hq])] at hx
    exact (Option.some.inj hx).symm
  have hCx : Cx I D cA ad p s m args meth c A locs H ls lv (M.set q (.inl (t, N, .inl g))) := ⟨a1, a2, a3, a4, a5, a6, a7, a8, a9, a10, ?_, ?_, a13, a14, a15, a16⟩
  · have hW := kk D cA ad p e s m args below meth c A locs H ls hCx
    rw [List.length_set] at hW
    exact hW
  · intro j x hx
    by_cases hj : j = q
    · subst hj
      rw [at2 x hx]
      have := a11 j _ (pw_at hM)
      show H[ad j]? = some (vp_cell (cA t) (N, .inl g))
      rw [← hc]
      exact this
    · exact a11 j x (at1 j x hx hj)
  · have ex : ∀ (j : Nat) (x : Nat × va_E), (pw ad cA (M.set q (.inl (t, N, .inl g))))[j]? = some x → ∃ y : Nat × va_E, (pw ad cA M)[j]? = some y ∧ y.1 = x.1 := fun j x hx => by
      by_cases hj : j = q
      · subst hj
        rw [at2 x hx]
        exact ⟨_, pw_at hM, rfl⟩
      · exact ⟨x, at1 j x hx hj, rfl⟩
    refine ⟨fun i j x y hi hj hxy => ?_, fun j x hx => ?_⟩
    · obtain ⟨x', h1, h2⟩ := ex i x hi
      obtain ⟨y', h3, h4⟩ := ex j y hj
      exact a12.1 i j x' y' h1 h3 (by rw [h2, h4, hxy])
    · obtain ⟨x', h1, h2⟩ := ex j x hx
      rw [← h2]
      exact a12.2 j x' h1
theorem acI : Cond.arrayClass .int ∈ lw_tbl := by decide +kernel
theorem acZ : Cond.arrayClass .boolean ∈ lw_tbl := by decide +kernel
theorem acL : Cond.arrayClass .long ∈ lw_tbl := by decide +kernel
theorem J.newI {N : Nat} (hd : decode I.cc pc = .ok (.newarray .int, 2)) (hN : N < 2 ^ 16) (hM : M.all (pokE M.length) = true) (hlv : lv.all (fun q => pkl M.length q.2) = true) (hst : (st.all (pkl M.length) && decide (M.length < 1000)) = true) (hc : k + 1 ≤ I.rm.cells) (hs : n + N ≤ I.rm.slots)
    (kk : J l I (pc + 2) lv (.ref M.length :: st) (M ++ [aI N (fun _ => 0)]) (k + 1) (n + N) out) : J l I pc lv (.int (nI N) :: st) M k n out :=
  J.newarray (t := 0) hd rfl (Or.inl ⟨rfl, rfl⟩) acI hN hM hlv hst hc hs kk
theorem J.newZ {N : Nat} (hd : decode I.cc pc = .ok (.newarray .boolean, 2)) (hN : N < 2 ^ 16) (hM : M.all (pokE M.length) = true) (hlv : lv.all (fun q => pkl M.length q.2) = true) (hst : (st.all (pkl M.length) && decide (M.length < 1000)) = true) (hc : k + 1 ≤ I.rm.cells) (hs : n + N ≤ I.rm.slots)
    (kk : J l I (pc + 2) lv (.ref M.length :: st) (M ++ [aZ N (fun _ => 0)]) (k + 1) (n + N) out) : J l I pc lv (.int (nI N) :: st) M k n out :=
  J.newarray (t := 1) hd rfl (Or.inr (Or.inl ⟨rfl, rfl⟩)) acZ hN hM hlv hst hc hs kk
end CELL
/-- a number between 1 and m -/
def nr (x : Int32) (m : Nat) : Nat := if x < nI 1 then 1 else if nI m < x then m else x.toNatClampNeg
theorem nI_clampI {x : Int32} (h : ¬ x < nI 1) : nI x.toNatClampNeg = x := by
  rw [Int32.lt_iff_toInt_lt, nI_toInt (by decide)] at h
  apply Int32.toInt_inj.mp
  have h2 := x.toInt_lt
  have e : x.toNatClampNeg = x.toInt.toNat := rfl
  rw [nI_toInt (by omega), e]
  omega
theorem nr_b {x : Int32} {m : Nat} (h1 : 1 ≤ m) (hm : m < 100) : 1 ≤ nr x m ∧ nr x m ≤ m := by
  unfold nr
  split
  · omega
  · rename_i h
    split
    · omega
    · rename_i h3
      rw [Int32.lt_iff_toInt_lt, nI_toInt (by decide)] at h
      rw [Int32.lt_iff_toInt_lt, nI_toInt (by omega)] at h3
      have e : x.toNatClampNeg = x.toInt.toNat := rfl
      omega
theorem mm_V (x : Int32) (m : Nat) (h1 : 1 < m) (hm : m < 100) : (if nI 1 < (if nI m < x then nI m else x) then (if nI m < x then nI m else x) else nI 1) = nI (nr x m) := by
  unfold nr
  by_cases h3 : nI m < x
  · have : ¬ x < nI 1 := by
      rw [Int32.lt_iff_toInt_lt, nI_toInt (by omega)] at h3
      rw [Int32.lt_iff_toInt_lt, nI_toInt (by decide)]
      omega
    rw [if_pos h3, if_neg this, if_pos h3, if_pos ((nI_ltI (by decide) (by omega)).mpr h1)]
  · rw [if_neg h3]
    by_cases h : x < nI 1
    · have : ¬ nI 1 < x := by
        rw [Int32.lt_iff_toInt_lt] at h ⊢
        omega
      rw [if_neg this, if_pos h]
    · rw [if_neg h, if_neg h3, nI_clampI h]
      by_cases h2 : nI 1 < x
      · rw [if_pos h2]
      · rw [if_neg h2]
        apply Int32.toInt_inj.mp
        rw [Int32.lt_iff_toInt_lt] at h h2
        omega
theorem mm_min : Cond.methodLink NV 163 Lib.Math.min.name ∈ lw_tbl := by decide +kernel
theorem mm_max : Cond.methodLink NV 168 Lib.Math.max.name ∈ lw_tbl := by decide +kernel
theorem mm_s1 : Cond.static Lib.Math.min.name ∈ lw_tbl := by decide +kernel
theorem mm_s2 : Cond.static Lib.Math.max.name ∈ lw_tbl := by decide +kernel
theorem mm_i : Cond.initialized "java/lang/Math" ∈ lw_tbl := by decide +kernel
theorem mm_c1 : Cond.code Lib.Math.min.name Lib.Math.min.code 2 (some .int) ∈ lw_tbl := by decide +kernel
theorem mm_c2 : Cond.code Lib.Math.max.name Lib.Math.max.code 2 (some .int) ∈ lw_tbl := by decide +kernel
theorem oi_V : Cond.methodLink NV 1 Lib.objectInit ∈ lw_tbl := by decide +kernel
theorem oi_C : Cond.methodLink NC 3 Lib.objectInit ∈ lw_tbl := by decide +kernel
theorem oi_D : Cond.methodLink ND 3 Lib.objectInit ∈ lw_tbl := by decide +kernel
theorem oi_G : Cond.methodLink NG 3 Lib.objectInit ∈ lw_tbl := by decide +kernel
theorem oi_R : Cond.methodLink NR 1 Lib.objectInit ∈ lw_tbl := by decide +kernel
theorem nw_V_13 : NWL NV 13 1 [.int 0, .int 0, .int 0, .null, .null, .null] 6 := ⟨NC, TC, tyC, rfl, lays_C, tokC, by decide +kernel, by decide +kernel, by decide +kernel, by decide +kernel, rfl⟩
theorem nw_V_22 : NWL NV 22 2 [.null, .null, .null, .null] 4 := ⟨ND, TD, tyD, rfl, lays_D, tokD, by decide +kernel, by decide +kernel, by decide +kernel, by decide +kernel, rfl⟩
theorem nw_V_29 : NWL NV 29 3 [.int 0, .int 0, .null, .null] 4 := ⟨NG, TG, tyG, rfl, lays_G, tokG, by decide +kernel, by decide +kernel, by decide +kernel, by decide +kernel, rfl⟩
def z0 : Nat → Nat := fun _ => 0
section INIT
variable {l : Launch} {K Mo L : Nat} {xs : Nat → Int32}
theorem con_V_nearest {x : Int32} {m : Nat} (h1 : 1 < m) (hm : m < 100) (M : List va_E) : Con l i_V_nearest [.int x, .int (nI m)] M (.inl (some (.int (nI (nr x m))), M)) := by
  refine Con.of ?_
  refine J.iconst d_V_nearest_0 (v := nI 1) (by decide) ?_
  refine J.iload_n d_V_nearest_1 rfl rfl ?_
  refine J.iload_n d_V_nearest_2 rfl rfl ?_
  refine J.mmin d_V_nearest_3 mm_min mm_s1 mm_i mm_c1 (by decide) (by decide) (by decide) (by decide) ?_
  refine J.mmax d_V_nearest_6 mm_max mm_s2 mm_i mm_c2 (by decide) (by decide) (by decide) (by decide) ?_
  rw [mm_V x m h1 hm]
  exact J.ireturn d_V_nearest_9 rfl (by decide) (by decide)
/-- an array filled, its first n -/
def flN (f : Nat → Int32) (x : Int32) (n : Nat) : Nat → Int32 := fun j => if j < n then x else f j
theorem flN_up {f : Nat → Int32} {x : Int32} {n : Nat} : upd (flN f x n) n x = flN f x (n + 1) := by
  funext j
  unfold upd flN
  by_cases h : j = n
  · subst h; simp
  · have : (j < n + 1) ↔ j < n := by omega
    simp only [h, this, if_false]
theorem lp_A_fill {q N : Nat} {x : Int32} {f : Nat → Int32} {M : List va_E} (hq : q < M.length) (hN : N < 2 ^ 16) : ∀ (j i : Nat), i + j = N →
    J l i_A_fill 5 [(0, .ref q), (1, .int x), (2, .int (nI i)), (3, .int (nI N))] [] (M.set q (.inl (0, N, .inl (flN f x i)))) 0 0 (.inl (none, M.set q (.inl (0, N, .inl (flN f x N)))))
  | 0, i, hi => by
    have hi' : i = N := by omega
    rw [hi']
    refine J.iload_n d_A_fill_5 rfl rfl ?_
    refine J.iload_n d_A_fill_6 rfl rfl ?_
    refine J.icmp_geN d_A_fill_7 (tgt := 20) (by decide) (by omega) (by omega) (fun h => ?_) (fun h => ?_)
    · exact J.vreturn d_A_fill_20 rfl (by decide) (by decide)
    · omega
  | j + 1, i, hi => by
    have ih := lp_A_fill (x := x) (f := f) hq hN j (i + 1) (by omega)
    refine J.iload_n d_A_fill_5 rfl rfl ?_
    refine J.iload_n d_A_fill_6 rfl rfl ?_
    refine J.icmp_geN d_A_fill_7 (tgt := 20) (by decide) (by omega) (by omega) (fun h => ?_) (fun h => ?_)
    · omega
    refine J.aload_n d_A_fill_10 rfl rfl ?_
    refine J.iload_n d_A_fill_11 rfl rfl ?_
    refine J.iload_n d_A_fill_12 rfl rfl ?_
    refine J.iastoreR (cell := N) (f := flN f x i) d_A_fill_13 (by rw [List.getElem?_set, if_pos rfl, if_pos hq]) (vp_in_nI (by omega) (by omega)) ?_
    rw [nI_clamp (by omega), flN_up, List.set_set]
    refine J.iincN d_A_fill_14 rfl rfl (by decide) rfl ?_
    refine J.goto d_A_fill_17 (tgt := 5) (by decide) ?_
    exact ih
theorem con_A_fill {q N : Nat} {x : Int32} {f : Nat → Int32} {M : List va_E} (hM : M[q]? = some (.inl (0, N, .inl f))) (hN : N < 2 ^ 16) : Con l i_A_fill [.ref q, .int x] M (.inl (none, M.set q (.inl (0, N, .inl (flN f x N))))) := by
  have hq := (List.getElem?_eq_some_iff.mp hM)
  have h1 := lp_A_fill (l := l) (x := x) (f := f) hq.1 hN N 0 (by omega)
  have e : M.set q (.inl (0, N, .inl (flN f x 0))) = M := by
    have e0 : flN f x 0 = f := by funext j; unfold flN; rw [if_neg (Nat.not_lt_zero _)]
    rw [e0]
    apply List.ext_getElem?
    intro j
    rw [List.getElem?_set]
    by_cases hj : q = j
    · subst hj; rw [if_pos rfl, if_pos hq.1, hM]
    · rw [if_neg hj]
  rw [e] at h1
  refine Con.of ?_
  refine J.iconst d_A_fill_0 (v := nI 0) (by decide) ?_
  refine J.istore_n d_A_fill_1 rfl (by decide) rfl ?_
  refine J.aload_n d_A_fill_2 rfl rfl ?_
  refine J.arraylength d_A_fill_3 hM (by decide) (v := nI N) rfl ?_
  refine J.istore_n d_A_fill_4 rfl (by decide) rfl ?_
  exact h1
theorem con_C_factor {h j : Nat} (hK : 0 < K) (hK4 : K ≤ 4) (hh : h < 7) (hj : j < K) (M : List va_E) : Con l i_C_factor [.int (nI h), .int (nI j), .int (nI K)] M (.inl (some (.int (nI (fac K (h * K + j)))), M)) := by
  have e : fac K (h * K + j) = if h < K then (if h = j then 1 else 0) else gi (h ^^^ j) := by
    unfold fac
    rw [dm_div hj, dm_mod hj]
  have hx : h ^^^ j < 256 := xor_lt (by omega) (by omega)
  refine Con.of ?_
  refine J.iload_n d_C_factor_0 rfl rfl ?_
  refine J.iload_n d_C_factor_1 rfl rfl ?_
  refine J.icmp_geN d_C_factor_2 (tgt := 16) (by decide) (by omega) (by omega) (fun h1 => ?_) (fun h1 => ?_)
  · rw [e, if_neg (by omega)]
    refine J.iload_n d_C_factor_16 rfl rfl ?_
    refine J.iload_n d_C_factor_17 rfl rfl ?_
    refine J.ixorN d_C_factor_18 ?_
    refine J.n1i (con_V_inverse hx M) k_C_factor_V_inverse d_C_factor_19 rfl ?_
    exact J.ireturn d_C_factor_22 rfl (by decide) (by decide)
  · rw [if_pos h1] at e
    refine J.iload_n d_C_factor_5 rfl rfl ?_
    refine J.iload_n d_C_factor_6 rfl rfl ?_
    refine J.icmp_neN d_C_factor_7 (tgt := 14) (by decide) (by omega) (by omega) (fun h2 => ?_) (fun h2 => ?_)
    · rw [if_neg h2] at e
      rw [e]
      refine J.iconst d_C_factor_14 (v := nI 0) (by decide) ?_
      exact J.ireturn d_C_factor_15 rfl (by decide) (by decide)
    · rw [if_pos h2] at e
      rw [e]
      refine J.iconst d_C_factor_10 (v := nI 1) (by decide) ?_
      refine J.goto d_C_factor_11 (tgt := 15) (by decide) ?_
      exact J.ireturn d_C_factor_15 rfl (by decide) (by decide)
/-- the factors filled in, the first n -/
def fcN (K n : Nat) : Nat → Nat := fun i => if i < n then fac K i else 0
theorem fcN_up {K n : Nat} : up (fcN K n) n (fac K n) = fcN K (n + 1) := by
  funext i
  unfold up fcN
  by_cases h : i = n
  · subst h; simp
  · have : (i < n + 1) ↔ i < n := by omega
    simp only [h, this, if_false]
def v0 : va_E := .inr (0, [.null, .null, .null, .null, .int 0, .null, .int 0])
def MC (L : Nat) (xs : Nat → Int32) (K Mo : Nat) (f : Nat → Nat) : List va_E := [v0, .inr (1, [.int (nI K), .int (nI (K + Mo)), .int (nI (4 * K)), .ref 2, .ref 4, .ref 3]), aI (4 * K) z0, aI (K * K) z0, aI ((K + Mo) * K) f]
theorem lp_C_ini2 {h : Nat} (hK : 0 < K) (hK4 : K ≤ 4) (hM : Mo ≤ 3) (hh : h < K + Mo) {out : Out}
    (kk : J l i_C_init 89 [(0, .ref 1), (1, .int (nI K)), (2, .int (nI (K + Mo))), (3, .int (nI h))] [] (MC L xs K Mo (fcN K ((h + 1) * K))) 3 60 out) : ∀ (j i : Nat), i + j = K →
    J l i_C_init 59 [(0, .ref 1), (1, .int (nI K)), (2, .int (nI (K + Mo))), (3, .int (nI h)), (4, .int (nI i))] [] (MC L xs K Mo (fcN K (h * K + i))) 3 60 out
  | 0, i, hi => by
    have hi' : i = K := by omega
    rw [hi', ← Nat.succ_mul]
    refine J.iload d_C_init_59 rfl ?_
    refine J.iload_n d_C_init_61 rfl rfl ?_
    refine J.icmp_geN d_C_init_62 (tgt := 89) (by decide) (by omega) (by omega) (fun h1 => ?_) (fun h1 => ?_)
    · exact J.sub [0, 1, 2, 3] kk
    · omega
  | j + 1, i, hi => by
    have ih := lp_C_ini2 hK hK4 hM hh kk j (i + 1) (by omega)
    rw [← Nat.add_assoc, ← fcN_up] at ih
    have hx := mulb hh (show i < K by omega)
    have h28 : (K + Mo) * K ≤ 7 * 4 := Nat.mul_le_mul (by omega) hK4
    refine J.iload d_C_init_59 rfl ?_
    refine J.iload_n d_C_init_61 rfl rfl ?_
    refine J.icmp_geN d_C_init_62 (tgt := 89) (by decide) (by omega) (by omega) (fun h1 => ?_) (fun h1 => ?_)
    · omega
    refine J.aload_n d_C_init_65 rfl rfl ?_
    refine J.getfield d_C_init_66 fl_C_28 rfl rfl ?_
    refine J.iload_n d_C_init_69 rfl rfl ?_
    refine J.iload_n d_C_init_70 rfl rfl ?_
    refine J.imulN d_C_init_71 ?_
    refine J.iload d_C_init_72 rfl ?_
    refine J.iaddN d_C_init_74 ?_
    refine J.iload_n d_C_init_75 rfl rfl ?_
    refine J.iload d_C_init_76 rfl ?_
    refine J.iload_n d_C_init_78 rfl rfl ?_
    refine J.s3i (con_C_factor hK hK4 (by omega) (by omega) _) k_C_init_C_factor d_C_init_79 rfl ?_
    refine J.iastoreN d_C_init_82 rfl (by omega) (by omega) ?_
    refine J.iincN d_C_init_83 rfl rfl (by decide) rfl ?_
    refine J.goto d_C_init_86 (tgt := 59) (by decide) ?_
    exact ih
theorem lp_C_ini1 (hK : 0 < K) (hK4 : K ≤ 4) (hM : Mo ≤ 3) : ∀ (j i : Nat), i + j = K + Mo →
    J l i_C_init 51 [(0, .ref 1), (1, .int (nI K)), (2, .int (nI (K + Mo))), (3, .int (nI i))] [] (MC L xs K Mo (fcN K (i * K))) 3 60 (.inl (none, MC L xs K Mo (fac K)))
  | 0, i, hi => by
    have hi' : i = K + Mo := by omega
    rw [hi']
    refine J.setA (q := 4) (g := fun j => nI (fac K j)) rfl (fun j hj => ?_) ?_
    · show nI (fcN K ((K + Mo) * K) j) = nI (fac K j)
      unfold fcN
      rw [if_pos hj]
    refine J.iload_n d_C_init_51 rfl rfl ?_
    refine J.iload_n d_C_init_52 rfl rfl ?_
    refine J.icmp_geN d_C_init_53 (tgt := 95) (by decide) (by omega) (by omega) (fun h1 => ?_) (fun h1 => ?_)
    · exact J.vreturn d_C_init_95 rfl (by decide) (by decide)
    · omega
  | j + 1, i, hi => by
    have ih := lp_C_ini1 hK hK4 hM j (i + 1) (by omega)
    refine J.iload_n d_C_init_51 rfl rfl ?_
    refine J.iload_n d_C_init_52 rfl rfl ?_
    refine J.icmp_geN d_C_init_53 (tgt := 95) (by decide) (by omega) (by omega) (fun h1 => ?_) (fun h1 => ?_)
    · omega
    refine J.iconst d_C_init_56 (v := nI 0) (by decide) ?_
    refine J.istore d_C_init_57 (by decide) rfl ?_
    refine lp_C_ini2 hK hK4 hM (by omega) ?_ K 0 (by omega)
    refine J.iincN d_C_init_89 rfl rfl (by decide) rfl ?_
    refine J.goto d_C_init_92 (tgt := 51) (by decide) ?_
    exact ih
theorem con_C_init (hK : 0 < K) (hK4 : K ≤ 4) (hM : Mo ≤ 3) : Con l i_C_init [.ref 1, .int (nI K), .int (nI (K + Mo))] [v0, .inr (1, [.int 0, .int 0, .int 0, .null, .null, .null])] (.inl (none, MC L xs K Mo (fac K))) := by
  have h1 := lp_C_ini1 (l := l) (L := L) (xs := xs) hK hK4 hM (K + Mo) 0 (by omega)
  rw [Nat.zero_mul] at h1
  have e0 : fcN K 0 = z0 := by funext i; unfold fcN; rw [if_neg (Nat.not_lt_zero _)]; rfl
  rw [e0] at h1
  have hKK : K * K ≤ 4 * 4 := Nat.mul_le_mul hK4 hK4
  have h28 : (K + Mo) * K ≤ 7 * 4 := Nat.mul_le_mul (by omega) hK4
  refine Con.of ?_
  refine J.aload_n d_C_init_0 rfl rfl ?_
  refine J.objInit d_C_init_1 oi_C (by decide) (by decide) ?_
  refine J.aload_n d_C_init_4 rfl rfl ?_
  refine J.iload_n d_C_init_5 rfl rfl ?_
  refine J.putfield d_C_init_6 fs_C_9 rfl (Nat.le_of_ble_eq_true rfl) rfl rfl ?_
  refine J.aload_n d_C_init_9 rfl rfl ?_
  refine J.iload_n d_C_init_10 rfl rfl ?_
  refine J.putfield d_C_init_11 fs_C_15 rfl (Nat.le_of_ble_eq_true rfl) rfl rfl ?_
  refine J.aload_n d_C_init_14 rfl rfl ?_
  refine J.iconst d_C_init_15 (v := nI 4) (by decide) ?_
  refine J.iload_n d_C_init_16 rfl rfl ?_
  refine J.imulN d_C_init_17 ?_
  refine J.putfield d_C_init_18 fs_C_18 rfl (Nat.le_of_ble_eq_true rfl) rfl rfl ?_
  refine J.aload_n d_C_init_21 rfl rfl ?_
  refine J.aload_n d_C_init_22 rfl rfl ?_
  refine J.getfield d_C_init_23 fl_C_18 rfl rfl ?_
  refine J.newI d_C_init_26 (by omega) rfl rfl rfl (by decide) (by show _ ≤ 60; omega) ?_
  refine J.putfield d_C_init_28 fs_C_21 rfl (Nat.le_of_ble_eq_true rfl) rfl rfl ?_
  refine J.aload_n d_C_init_31 rfl rfl ?_
  refine J.iload_n d_C_init_32 rfl rfl ?_
  refine J.iload_n d_C_init_33 rfl rfl ?_
  refine J.imulN d_C_init_34 ?_
  refine J.newI d_C_init_35 (by omega) rfl rfl rfl (by decide) (by show _ ≤ 60; omega) ?_
  refine J.putfield d_C_init_37 fs_C_25 rfl (Nat.le_of_ble_eq_true rfl) rfl rfl ?_
  refine J.aload_n d_C_init_40 rfl rfl ?_
  refine J.iload_n d_C_init_41 rfl rfl ?_
  refine J.iload_n d_C_init_42 rfl rfl ?_
  refine J.imulN d_C_init_43 ?_
  refine J.newI d_C_init_44 (by omega) rfl rfl rfl (by decide) (by show _ ≤ 60; omega) ?_
  refine J.putfield d_C_init_46 fs_C_28 rfl (Nat.le_of_ble_eq_true rfl) rfl rfl ?_
  refine J.iconst d_C_init_49 (v := nI 0) (by decide) ?_
  refine J.istore_n d_C_init_50 rfl (by decide) rfl ?_
  exact J.widen (by decide) (by show _ ≤ 60; omega) h1
end INIT
