/-! The catalogue's and the disks' other methods -/
section CAT
variable {l : Launch} {K Mo dl ol : Nat} {dr ou da eq al fr tk by_ ln pl : Nat → Nat} {X : List va_E}
def b2n (b : Bool) : Nat := if b then 1 else 0
theorem b2n_lt (b : Bool) : b2n b < 2 := by cases b <;> decide
/-- how many stripes n bytes take -/
def ns (K n : Nat) : Nat := (n + 4 * K - 1) / (4 * K)
/-- a sum of the first n -/
def cs (f : Nat → Nat) : Nat → Nat
  | 0 => 0
  | n + 1 => cs f n + f n
theorem cs_le {f : Nat → Nat} {b : Nat} (h : ∀ i, f i ≤ b) : ∀ n, cs f n ≤ n * b
  | 0 => Nat.zero_le _
  | n + 1 => by
    have := cs_le h n
    have := h n
    unfold cs
    rw [Nat.succ_mul]; omega
/-- is one of the first n -/
def anyB (p : Nat → Bool) : Nat → Bool
  | 0 => false
  | n + 1 => anyB p n || p n
theorem anyB_true {p : Nat → Bool} {i : Nat} (hp : p i = true) : ∀ n, i < n → anyB p n = true
  | 0, h => absurd h (Nat.not_lt_zero _)
  | n + 1, h => by
    unfold anyB
    rcases Nat.lt_or_ge i n with h1 | h1
    · rw [anyB_true hp n h1]; rfl
    · have : i = n := by omega
      subst this; rw [hp, Bool.or_true]
/-- a lost shard's mark -/
def z1 (x : Nat) : Nat := if x = 0 then 1 else 0
/-- a place of the class (less one) lies on a disk -/
def od (d x : Nat) : Bool := decide (x ≠ 0) && decide ((x - 1) / 16 = d)
theorem con_G_lengthOf {o : Nat} (ho : o < 6) : Con l i_G_lengthOf [.ref 10, .int (nI o)] (CM K Mo dr dl ou ol da eq al fr tk by_ ln pl X) (.inl (some (.int (nI (ln o))), (CM K Mo dr dl ou ol da eq al fr tk by_ ln pl X))) := by
  refine Con.of ?_
  refine J.aload_n d_G_lengthOf_0 rfl rfl ?_
  refine J.getfield d_G_lengthOf_1 fl_G_18 rfl rfl ?_
  refine J.iload_n d_G_lengthOf_4 rfl rfl ?_
  refine J.ialoadN d_G_lengthOf_5 rfl (by omega) (by omega) ?_
  exact J.ireturn d_G_lengthOf_6 rfl (by decide) (by decide)
theorem con_G_stripesOf {o : Nat} (ho : o < 6) (hK : 0 < K) (hK4 : K ≤ 4) (hl : ln o < 2 ^ 30) : Con l i_G_stripesOf [.ref 10, .int (nI o)] (CM K Mo dr dl ou ol da eq al fr tk by_ ln pl X) (.inl (some (.int (nI (ns K (ln o)))), (CM K Mo dr dl ou ol da eq al fr tk by_ ln pl X))) := by
  refine Con.of ?_
  refine J.aload_n d_G_stripesOf_0 rfl rfl ?_
  refine J.getfield d_G_stripesOf_1 fl_G_18 rfl rfl ?_
  refine J.iload_n d_G_stripesOf_4 rfl rfl ?_
  refine J.ialoadN d_G_stripesOf_5 rfl (by omega) (by omega) ?_
  refine J.aload_n d_G_stripesOf_6 rfl rfl ?_
  refine J.getfield d_G_stripesOf_7 fl_G_15 rfl rfl ?_
  refine J.iaddN d_G_stripesOf_10 ?_
  refine J.iconst d_G_stripesOf_11 (v := nI 1) (by decide) ?_
  refine J.isubN d_G_stripesOf_12 (by omega) ?_
  refine J.aload_n d_G_stripesOf_13 rfl rfl ?_
  refine J.getfield d_G_stripesOf_14 fl_G_15 rfl rfl ?_
  refine J.idivN d_G_stripesOf_17 (by omega) (by omega) (by omega) ?_
  exact J.ireturn d_G_stripesOf_18 rfl (by decide) (by decide)
theorem con_G_enter {o v : Nat} (ho : o < 6) : Con l i_G_enter [.ref 10, .int (nI o), .int (nI v)] (CM K Mo dr dl ou ol da eq al fr tk by_ ln pl X) (.inl (none, (CM K Mo dr dl ou ol da eq al fr tk by_ (up ln o v) pl X))) := by
  refine Con.of ?_
  refine J.aload_n d_G_enter_0 rfl rfl ?_
  refine J.getfield d_G_enter_1 fl_G_18 rfl rfl ?_
  refine J.iload_n d_G_enter_4 rfl rfl ?_
  refine J.iload_n d_G_enter_5 rfl rfl ?_
  refine J.iastoreN d_G_enter_6 rfl (by omega) (by omega) ?_
  exact J.vreturn d_G_enter_7 rfl (by decide) (by decide)
theorem con_G_strike {o : Nat} (ho : o < 6) : Con l i_G_strike [.ref 10, .int (nI o)] (CM K Mo dr dl ou ol da eq al fr tk by_ ln pl X) (.inl (none, (CM K Mo dr dl ou ol da eq al fr tk by_ (up ln o 0) pl X))) := by
  refine Con.of ?_
  refine J.aload_n d_G_strike_0 rfl rfl ?_
  refine J.getfield d_G_strike_1 fl_G_18 rfl rfl ?_
  refine J.iload_n d_G_strike_4 rfl rfl ?_
  refine J.iconst d_G_strike_5 (v := nI 0) (by decide) ?_
  refine J.iastoreN d_G_strike_6 rfl (by omega) (by omega) ?_
  exact J.vreturn d_G_strike_7 rfl (by decide) (by decide)
theorem con_G_rowOf {o s : Nat} : Con l i_G_rowOf [.ref 10, .int (nI o), .int (nI s)] (CM K Mo dr dl ou ol da eq al fr tk by_ ln pl X) (.inl (some (.int (nI (o * 56 + s * (K + Mo)))), (CM K Mo dr dl ou ol da eq al fr tk by_ ln pl X))) := by
  refine Con.of ?_
  refine J.iload_n d_G_rowOf_0 rfl rfl ?_
  refine J.bipush d_G_rowOf_1 (v := nI 56) (by decide) ?_
  refine J.imulN d_G_rowOf_3 ?_
  refine J.iload_n d_G_rowOf_4 rfl rfl ?_
  refine J.aload_n d_G_rowOf_5 rfl rfl ?_
  refine J.getfield d_G_rowOf_6 fl_G_9 rfl rfl ?_
  refine J.imulN d_G_rowOf_9 ?_
  refine J.iaddN d_G_rowOf_10 ?_
  exact J.ireturn d_G_rowOf_11 rfl (by decide) (by decide)
theorem con_G_placeOf {r h : Nat} (hr : r + h < 336) : Con l i_G_placeOf [.ref 10, .int (nI r), .int (nI h)] (CM K Mo dr dl ou ol da eq al fr tk by_ ln pl X) (.inl (some (.int (pI (pl (r + h)))), (CM K Mo dr dl ou ol da eq al fr tk by_ ln pl X))) := by
  refine Con.of ?_
  refine J.aload_n d_G_placeOf_0 rfl rfl ?_
  refine J.getfield d_G_placeOf_1 fl_G_22 rfl rfl ?_
  refine J.iload_n d_G_placeOf_4 rfl rfl ?_
  refine J.iload_n d_G_placeOf_5 rfl rfl ?_
  refine J.iaddN d_G_placeOf_6 ?_
  refine J.ialoadP d_G_placeOf_7 rfl (by omega) (by omega) ?_
  exact J.ireturn d_G_placeOf_8 rfl (by decide) (by decide)
theorem con_G_setPlace {r h v : Nat} (hr : r + h < 336) : Con l i_G_setPlace [.ref 10, .int (nI r), .int (nI h), .int (pI v)] (CM K Mo dr dl ou ol da eq al fr tk by_ ln pl X) (.inl (none, (CM K Mo dr dl ou ol da eq al fr tk by_ ln (up pl (r + h) v) X))) := by
  refine Con.of ?_
  refine J.aload_n d_G_setPlace_0 rfl rfl ?_
  refine J.getfield d_G_setPlace_1 fl_G_22 rfl rfl ?_
  refine J.iload_n d_G_setPlace_4 rfl rfl ?_
  refine J.iload_n d_G_setPlace_5 rfl rfl ?_
  refine J.iaddN d_G_setPlace_6 ?_
  refine J.iload_n d_G_setPlace_7 rfl rfl ?_
  refine J.iastoreP d_G_setPlace_8 rfl (by omega) (by omega) ?_
  exact J.vreturn d_G_setPlace_9 rfl (by decide) (by decide)
theorem con_G_isPlaceOnDisk {x d : Nat} (hx : x < 2 ^ 30) (hd : d < 8) (M : List va_E) : Con l i_G_isPlaceOnDisk [.int (pI x), .int (nI d)] M (.inl (some (.int (nI (b2n (od d x)))), M)) := by
  refine Con.of ?_
  refine J.iload_n d_G_isPlaceOnDisk_0 rfl rfl ?_
  refine J.iconst d_G_isPlaceOnDisk_1 (v := pI 0) (by decide) ?_
  refine J.icmp_eqP d_G_isPlaceOnDisk_2 (tgt := 17) (by decide) (by omega) (by omega) (fun h => ?_) (fun h => ?_)
  · have e : b2n (od d x) = 0 := by rw [h]; rfl
    rw [e]
    refine J.iconst d_G_isPlaceOnDisk_17 (v := nI 0) (by decide) ?_
    first | exact J.zreturn d_G_isPlaceOnDisk_18 rfl rfl (by decide) (by decide) | exact J.zreturnN d_G_isPlaceOnDisk_18 rfl (by omega) (by decide) (by decide)
  · obtain ⟨y, rfl⟩ : ∃ y, x = y + 1 := ⟨x - 1, by omega⟩
    rw [pI_succ]
    refine J.iload_n d_G_isPlaceOnDisk_5 rfl (x := nI y) (by rw [← pI_succ]; rfl) ?_
    refine J.bipush d_G_isPlaceOnDisk_6 (v := nI 16) (by decide) ?_
    refine J.idivN d_G_isPlaceOnDisk_8 (by omega) (by omega) (by omega) ?_
    refine J.iload_n d_G_isPlaceOnDisk_9 rfl rfl ?_
    refine J.icmp_neN d_G_isPlaceOnDisk_10 (tgt := 17) (by decide) (by omega) (by omega) (fun h2 => ?_) (fun h2 => ?_)
    · have e : b2n (od d (y + 1)) = 0 := by simp [od, b2n]; omega
      rw [e]
      refine J.iconst d_G_isPlaceOnDisk_17 (v := nI 0) (by decide) ?_
      first | exact J.zreturn d_G_isPlaceOnDisk_18 rfl rfl (by decide) (by decide) | exact J.zreturnN d_G_isPlaceOnDisk_18 rfl (by omega) (by decide) (by decide)
    · have e : b2n (od d (y + 1)) = 1 := by simp [od, b2n]; omega
      rw [e]
      refine J.iconst d_G_isPlaceOnDisk_13 (v := nI 1) (by decide) ?_
      refine J.goto d_G_isPlaceOnDisk_14 (tgt := 18) (by decide) ?_
      first | exact J.zreturn d_G_isPlaceOnDisk_18 rfl rfl (by decide) (by decide) | exact J.zreturnN d_G_isPlaceOnDisk_18 rfl (by omega) (by decide) (by decide)
theorem lp_G_countLost {r : Nat} (hS : K + Mo ≤ 7) (hr : r + (K + Mo) ≤ 336) (hp : ∀ i, pl i < 2 ^ 30) : ∀ (j i : Nat), i + j = K + Mo →
    J l i_G_countLost 4 [(0, .ref 10), (1, .int (nI r)), (2, .int (nI (cs (fun h => z1 (pl (r + h))) i))), (3, .int (nI i))] [] (CM K Mo dr dl ou ol da eq al fr tk by_ ln pl X) 0 0 (.inl (some (.int (nI (cs (fun h => z1 (pl (r + h))) (K + Mo)))), (CM K Mo dr dl ou ol da eq al fr tk by_ ln pl X)))
  | 0, i, hi => by
    refine J.iload_n d_G_countLost_4 rfl rfl ?_
    refine J.aload_n d_G_countLost_5 rfl rfl ?_
    refine J.getfield d_G_countLost_6 fl_G_9 rfl rfl ?_
    refine J.icmp_geN d_G_countLost_9 (tgt := 33) (by decide) (by omega) (by omega) (fun h => ?_) (fun h => ?_)
    · rw [show i = K + Mo by omega]
      refine J.iload_n d_G_countLost_33 rfl rfl ?_
      exact J.ireturn d_G_countLost_34 rfl (by decide) (by decide)
    · omega
  | j + 1, i, hi => by
    refine J.iload_n d_G_countLost_4 rfl rfl ?_
    refine J.aload_n d_G_countLost_5 rfl rfl ?_
    refine J.getfield d_G_countLost_6 fl_G_9 rfl rfl ?_
    refine J.icmp_geN d_G_countLost_9 (tgt := 33) (by decide) (by omega) (by omega) (fun h => ?_) (fun h => ?_)
    · omega
    have hpi := hp (r + i)
    refine J.aload_n d_G_countLost_12 rfl rfl ?_
    refine J.getfield d_G_countLost_13 fl_G_22 rfl rfl ?_
    refine J.iload_n d_G_countLost_16 rfl rfl ?_
    refine J.iload_n d_G_countLost_17 rfl rfl ?_
    refine J.iaddN d_G_countLost_18 ?_
    refine J.ialoadP d_G_countLost_19 rfl (by omega) (by omega) ?_
    refine J.iconst d_G_countLost_20 (v := pI 0) (by decide) ?_
    refine J.icmp_neP d_G_countLost_21 (tgt := 27) (by decide) (by omega) (by omega) (fun h => ?_) (fun h => ?_)
    · refine J.iincN d_G_countLost_27 rfl rfl (by decide) rfl ?_
      refine J.goto d_G_countLost_30 (tgt := 4) (by decide) ?_
      have e : cs (fun h => z1 (pl (r + h))) (i + 1) = cs (fun h => z1 (pl (r + h))) i := by simp [cs, z1, h]
      have := lp_G_countLost hS hr hp j (i + 1) (by omega)
      rw [e] at this
      exact this
    · refine J.iincN d_G_countLost_24 rfl rfl (by decide) rfl ?_
      refine J.iincN d_G_countLost_27 rfl rfl (by decide) rfl ?_
      refine J.goto d_G_countLost_30 (tgt := 4) (by decide) ?_
      have e : cs (fun h => z1 (pl (r + h))) (i + 1) = cs (fun h => z1 (pl (r + h))) i + 1 := by simp [cs, z1, h]
      have := lp_G_countLost hS hr hp j (i + 1) (by omega)
      rw [e] at this
      exact this
theorem con_G_countLost {r : Nat} (hS : K + Mo ≤ 7) (hr : r + (K + Mo) ≤ 336) (hp : ∀ i, pl i < 2 ^ 30) : Con l i_G_countLost [.ref 10, .int (nI r)] (CM K Mo dr dl ou ol da eq al fr tk by_ ln pl X) (.inl (some (.int (nI (cs (fun h => z1 (pl (r + h))) (K + Mo)))), (CM K Mo dr dl ou ol da eq al fr tk by_ ln pl X))) := by
  refine Con.of ?_
  refine J.iconst d_G_countLost_0 (v := nI 0) (by decide) ?_
  refine J.istore_n d_G_countLost_1 rfl (by decide) rfl ?_
  refine J.iconst d_G_countLost_2 (v := nI 0) (by decide) ?_
  refine J.istore_n d_G_countLost_3 rfl (by decide) rfl ?_
  exact lp_G_countLost hS hr hp (K + Mo) 0 (by omega)
theorem lp_G_isOnDisk {r d : Nat} (hd : d < 8) (hS : K + Mo ≤ 7) (hr : r + (K + Mo) ≤ 336) (hp : ∀ i, pl i < 2 ^ 30) : ∀ (j i : Nat), i + j = K + Mo → anyB (fun h => od d (pl (r + h))) i = false →
    J l i_G_isOnDisk 2 [(0, .ref 10), (1, .int (nI r)), (2, .int (nI d)), (3, .int (nI i))] [] (CM K Mo dr dl ou ol da eq al fr tk by_ ln pl X) 0 0 (.inl (some (.int (nI (b2n (anyB (fun h => od d (pl (r + h))) (K + Mo))))), (CM K Mo dr dl ou ol da eq al fr tk by_ ln pl X)))
  | 0, i, hi, ha => by
    refine J.iload_n d_G_isOnDisk_2 rfl rfl ?_
    refine J.aload_n d_G_isOnDisk_3 rfl rfl ?_
    refine J.getfield d_G_isOnDisk_4 fl_G_9 rfl rfl ?_
    refine J.icmp_geN d_G_isOnDisk_7 (tgt := 33) (by decide) (by omega) (by omega) (fun h => ?_) (fun h => ?_)
    · rw [show i = K + Mo by omega] at ha
      rw [ha]
      refine J.iconst d_G_isOnDisk_33 (v := nI 0) (by decide) ?_
      first | exact J.zreturn d_G_isOnDisk_34 rfl rfl (by decide) (by decide) | exact J.zreturnN d_G_isOnDisk_34 rfl (by omega) (by decide) (by decide)
    · omega
  | j + 1, i, hi, ha => by
    refine J.iload_n d_G_isOnDisk_2 rfl rfl ?_
    refine J.aload_n d_G_isOnDisk_3 rfl rfl ?_
    refine J.getfield d_G_isOnDisk_4 fl_G_9 rfl rfl ?_
    refine J.icmp_geN d_G_isOnDisk_7 (tgt := 33) (by decide) (by omega) (by omega) (fun h => ?_) (fun h => ?_)
    · omega
    have hpi := hp (r + i)
    refine J.aload_n d_G_isOnDisk_10 rfl rfl ?_
    refine J.getfield d_G_isOnDisk_11 fl_G_22 rfl rfl ?_
    refine J.iload_n d_G_isOnDisk_14 rfl rfl ?_
    refine J.iload_n d_G_isOnDisk_15 rfl rfl ?_
    refine J.iaddN d_G_isOnDisk_16 ?_
    refine J.ialoadP d_G_isOnDisk_17 rfl (by omega) (by omega) ?_
    refine J.iload_n d_G_isOnDisk_18 rfl rfl ?_
    refine J.s2i (con_G_isPlaceOnDisk hpi hd _) k_G_isOnDisk_G_isPlaceOnDisk d_G_isOnDisk_19 rfl ?_
    have hb := b2n_lt (od d (pl (r + i)))
    refine J.if_eqN d_G_isOnDisk_22 (tgt := 27) (by decide) (by omega) (fun h2 => ?_) (fun h2 => ?_)
    · refine J.iincN d_G_isOnDisk_27 rfl rfl (by decide) rfl ?_
      refine J.goto d_G_isOnDisk_30 (tgt := 2) (by decide) ?_
      have e : od d (pl (r + i)) = false := by cases hz : od d (pl (r + i)) <;> simp_all [b2n]
      exact lp_G_isOnDisk hd hS hr hp j (i + 1) (by omega) (by simp [anyB, ha, e])
    · have e : od d (pl (r + i)) = true := by cases hz : od d (pl (r + i)) <;> simp_all [b2n]
      rw [anyB_true (p := fun h => od d (pl (r + h))) e (K + Mo) (by omega)]
      refine J.iconst d_G_isOnDisk_25 (v := nI 1) (by decide) ?_
      first | exact J.zreturn d_G_isOnDisk_26 rfl rfl (by decide) (by decide) | exact J.zreturnN d_G_isOnDisk_26 rfl (by omega) (by decide) (by decide)
theorem con_G_isOnDisk {r d : Nat} (hd : d < 8) (hS : K + Mo ≤ 7) (hr : r + (K + Mo) ≤ 336) (hp : ∀ i, pl i < 2 ^ 30) : Con l i_G_isOnDisk [.ref 10, .int (nI r), .int (nI d)] (CM K Mo dr dl ou ol da eq al fr tk by_ ln pl X) (.inl (some (.int (nI (b2n (anyB (fun h => od d (pl (r + h))) (K + Mo))))), (CM K Mo dr dl ou ol da eq al fr tk by_ ln pl X))) := by
  refine Con.of ?_
  refine J.iconst d_G_isOnDisk_0 (v := nI 0) (by decide) ?_
  refine J.istore_n d_G_isOnDisk_1 rfl (by decide) rfl ?_
  exact lp_G_isOnDisk hd hS hr hp (K + Mo) 0 (by omega) rfl
/-- the places less those on a disk, the first n of them -/
def lz (pl : Nat → Nat) (d n : Nat) : Nat → Nat := fun i => if i < n ∧ od d (pl i) = true then 0 else pl i
theorem lz_at (pl : Nat → Nat) (d n : Nat) : lz pl d n n = pl n := by simp [lz]
theorem lz_yes {pl : Nat → Nat} {d n : Nat} (h : od d (pl n) = true) : up (lz pl d n) n 0 = lz pl d (n + 1) := by
  funext i
  by_cases hi : i = n
  · subst hi; simp [up, lz, h]
  · simp only [up, lz, if_neg hi]
    have : (i < n + 1) ↔ i < n := by omega
    simp only [this]
theorem lz_no {pl : Nat → Nat} {d n : Nat} (h : od d (pl n) = false) : lz pl d (n + 1) = lz pl d n := by
  funext i
  by_cases hi : i = n
  · subst hi; simp [lz, h]
  · simp only [lz]
    have : (i < n + 1) ↔ i < n := by omega
    simp only [this]
theorem lp_G_loseDisk {d : Nat} (hd : d < 8) (hp : ∀ i, pl i < 2 ^ 30) : ∀ (j i : Nat), i + j = 336 →
    J l i_G_loseDisk 2 [(0, .ref 10), (1, .int (nI d)), (2, .int (nI i))] [] (CM K Mo dr dl ou ol da eq al fr tk by_ ln (lz pl d i) X) 0 0 (.inl (none, (CM K Mo dr dl ou ol da eq al fr tk by_ ln (lz pl d 336) X)))
  | 0, i, hi => by
    refine J.iload_n d_G_loseDisk_2 rfl rfl ?_
    refine J.aload_n d_G_loseDisk_3 rfl rfl ?_
    refine J.getfield d_G_loseDisk_4 fl_G_22 rfl rfl ?_
    refine J.arraylength d_G_loseDisk_7 rfl (by decide) (v := nI _) rfl ?_
    refine J.icmp_geN d_G_loseDisk_8 (tgt := 37) (by decide) (by omega) (by omega) (fun h => ?_) (fun h => ?_)
    · rw [show i = 336 by omega]
      exact J.vreturn d_G_loseDisk_37 rfl (by decide) (by decide)
    · omega
  | j + 1, i, hi => by
    refine J.iload_n d_G_loseDisk_2 rfl rfl ?_
    refine J.aload_n d_G_loseDisk_3 rfl rfl ?_
    refine J.getfield d_G_loseDisk_4 fl_G_22 rfl rfl ?_
    refine J.arraylength d_G_loseDisk_7 rfl (by decide) (v := nI _) rfl ?_
    refine J.icmp_geN d_G_loseDisk_8 (tgt := 37) (by decide) (by omega) (by omega) (fun h => ?_) (fun h => ?_)
    · omega
    have hpi := hp i
    refine J.aload_n d_G_loseDisk_11 rfl rfl ?_
    refine J.getfield d_G_loseDisk_12 fl_G_22 rfl rfl ?_
    refine J.iload_n d_G_loseDisk_15 rfl rfl ?_
    refine J.ialoadP d_G_loseDisk_16 rfl (by omega) (by omega) ?_
    refine J.iload_n d_G_loseDisk_17 rfl rfl ?_
    rw [lz_at]
    refine J.s2i (con_G_isPlaceOnDisk hpi hd _) k_G_loseDisk_G_isPlaceOnDisk d_G_loseDisk_18 rfl ?_
    have hb := b2n_lt (od d (pl i))
    refine J.if_eqN d_G_loseDisk_21 (tgt := 31) (by decide) (by omega) (fun h2 => ?_) (fun h2 => ?_)
    · refine J.iincN d_G_loseDisk_31 rfl rfl (by decide) rfl ?_
      refine J.goto d_G_loseDisk_34 (tgt := 2) (by decide) ?_
      have e : od d (pl i) = false := by cases hz : od d (pl i) <;> simp_all [b2n]
      have := lp_G_loseDisk hd hp j (i + 1) (by omega)
      rw [lz_no e] at this
      exact this
    · have e : od d (pl i) = true := by cases hz : od d (pl i) <;> simp_all [b2n]
      refine J.aload_n d_G_loseDisk_24 rfl rfl ?_
      refine J.getfield d_G_loseDisk_25 fl_G_22 rfl rfl ?_
      refine J.iload_n d_G_loseDisk_28 rfl rfl ?_
      refine J.iconst d_G_loseDisk_29 (v := pI 0) (by decide) ?_
      refine J.iastoreP d_G_loseDisk_30 rfl (by omega) (by omega) ?_
      refine J.iincN d_G_loseDisk_31 rfl rfl (by decide) rfl ?_
      refine J.goto d_G_loseDisk_34 (tgt := 2) (by decide) ?_
      have := lp_G_loseDisk hd hp j (i + 1) (by omega)
      rw [← lz_yes e] at this
      exact this
theorem con_G_loseDisk {d : Nat} (hd : d < 8) (hp : ∀ i, pl i < 2 ^ 30) : Con l i_G_loseDisk [.ref 10, .int (nI d)] (CM K Mo dr dl ou ol da eq al fr tk by_ ln pl X) (.inl (none, (CM K Mo dr dl ou ol da eq al fr tk by_ ln (lz pl d 336) X))) := by
  refine Con.of ?_
  refine J.iconst d_G_loseDisk_0 (v := nI 0) (by decide) ?_
  refine J.istore_n d_G_loseDisk_1 rfl (by decide) rfl ?_
  have e : lz pl d 0 = pl := by funext i; simp [lz]
  have := lp_G_loseDisk (l := l) (K := K) (Mo := Mo) (dl := dl) (ol := ol) (dr := dr) (ou := ou) (da := da) (eq := eq) (al := al) (fr := fr) (tk := tk) (by_ := by_) (ln := ln) (X := X) hd hp 336 0 (by omega)
  rw [e] at this
  exact this
theorem lp_D_countAlive (h2 : ∀ i, al i < 2) : ∀ (j i : Nat), i + j = 8 →
    J l i_D_countAlive 4 [(0, .ref 5), (1, .int (nI (cs al i))), (2, .int (nI i))] [] (CM K Mo dr dl ou ol da eq al fr tk by_ ln pl X) 0 0 (.inl (some (.int (nI (cs al 8))), (CM K Mo dr dl ou ol da eq al fr tk by_ ln pl X)))
  | 0, i, hi => by
    refine J.iload_n d_D_countAlive_4 rfl rfl ?_
    refine J.bipush d_D_countAlive_5 (v := nI 8) (by decide) ?_
    refine J.icmp_geN d_D_countAlive_7 (tgt := 28) (by decide) (by omega) (by omega) (fun h => ?_) (fun h => ?_)
    · rw [show i = 8 by omega]
      refine J.iload_n d_D_countAlive_28 rfl rfl ?_
      exact J.ireturn d_D_countAlive_29 rfl (by decide) (by decide)
    · omega
  | j + 1, i, hi => by
    have h2i := h2 i
    refine J.iload_n d_D_countAlive_4 rfl rfl ?_
    refine J.bipush d_D_countAlive_5 (v := nI 8) (by decide) ?_
    refine J.icmp_geN d_D_countAlive_7 (tgt := 28) (by decide) (by omega) (by omega) (fun h => ?_) (fun h => ?_)
    · omega
    refine J.aload_n d_D_countAlive_10 rfl rfl ?_
    refine J.getfield d_D_countAlive_11 fl_D_9 rfl rfl ?_
    refine J.iload_n d_D_countAlive_14 rfl rfl ?_
    refine J.baloadN d_D_countAlive_15 rfl (by omega) (by omega) ?_
    refine J.if_eqN d_D_countAlive_16 (tgt := 22) (by decide) (by omega) (fun h3 => ?_) (fun h3 => ?_)
    · refine J.iincN d_D_countAlive_22 rfl rfl (by decide) rfl ?_
      refine J.goto d_D_countAlive_25 (tgt := 4) (by decide) ?_
      have e : cs al (i + 1) = cs al i := by simp [cs, h3]
      have := lp_D_countAlive h2 j (i + 1) (by omega)
      rw [e] at this
      exact this
    · refine J.iincN d_D_countAlive_19 rfl rfl (by decide) rfl ?_
      refine J.iincN d_D_countAlive_22 rfl rfl (by decide) rfl ?_
      refine J.goto d_D_countAlive_25 (tgt := 4) (by decide) ?_
      have e : cs al (i + 1) = cs al i + 1 := by simp only [cs]; omega
      have := lp_D_countAlive h2 j (i + 1) (by omega)
      rw [e] at this
      exact this
theorem con_D_countAlive (h2 : ∀ i, al i < 2) : Con l i_D_countAlive [.ref 5] (CM K Mo dr dl ou ol da eq al fr tk by_ ln pl X) (.inl (some (.int (nI (cs al 8))), (CM K Mo dr dl ou ol da eq al fr tk by_ ln pl X))) := by
  refine Con.of ?_
  refine J.iconst d_D_countAlive_0 (v := nI 0) (by decide) ?_
  refine J.istore_n d_D_countAlive_1 rfl (by decide) rfl ?_
  refine J.iconst d_D_countAlive_2 (v := nI 0) (by decide) ?_
  refine J.istore_n d_D_countAlive_3 rfl (by decide) rfl ?_
  exact lp_D_countAlive h2 8 0 (by omega)
/-- a disk's slots made free, the first n of them -/
def fz (tk : Nat → Nat) (d n : Nat) : Nat → Nat := fun q => if q / 16 = d ∧ q % 16 < n then 0 else tk q
theorem fz_up {tk : Nat → Nat} {d n : Nat} (hn : n < 16) : up (fz tk d n) (16 * d + n) 0 = fz tk d (n + 1) := by
  funext q
  by_cases hq : q = 16 * d + n
  · subst hq
    have h1 : (16 * d + n) / 16 = d := by omega
    have h2 : (16 * d + n) % 16 = n := by omega
    simp [up, fz, h1, h2]
  · simp only [up, fz, if_neg hq]
    have : (q / 16 = d ∧ q % 16 < n + 1) ↔ (q / 16 = d ∧ q % 16 < n) := by omega
    simp only [this]
theorem lp_D_stop {d : Nat} (hd : d < 8) : ∀ (j i : Nat), i + j = 10 →
    J l i_D_stop 17 [(0, .ref 5), (1, .int (nI d)), (2, .int (nI i))] [] (CM K Mo dr dl ou ol da eq al fr (fz tk d i) by_ ln pl X) 0 0 (.inl (none, (CM K Mo dr dl ou ol da eq al fr (fz tk d 10) by_ ln pl X)))
  | 0, i, hi => by
    refine J.iload_n d_D_stop_17 rfl rfl ?_
    refine J.bipush d_D_stop_18 (v := nI 10) (by decide) ?_
    refine J.icmp_geN d_D_stop_20 (tgt := 40) (by decide) (by omega) (by omega) (fun h => ?_) (fun h => ?_)
    · rw [show i = 10 by omega]
      exact J.vreturn d_D_stop_40 rfl (by decide) (by decide)
    · omega
  | j + 1, i, hi => by
    refine J.iload_n d_D_stop_17 rfl rfl ?_
    refine J.bipush d_D_stop_18 (v := nI 10) (by decide) ?_
    refine J.icmp_geN d_D_stop_20 (tgt := 40) (by decide) (by omega) (by omega) (fun h => ?_) (fun h => ?_)
    · omega
    refine J.aload_n d_D_stop_23 rfl rfl ?_
    refine J.getfield d_D_stop_24 fl_D_19 rfl rfl ?_
    refine J.iload_n d_D_stop_27 rfl rfl ?_
    refine J.iload_n d_D_stop_28 rfl rfl ?_
    refine J.n2i (con_V_placeAt d i _) k_D_stop_V_placeAt d_D_stop_29 rfl ?_
    refine J.iconst d_D_stop_32 (v := nI 0) (by decide) ?_
    refine J.bastoreN d_D_stop_33 rfl (by omega) (by omega) (by omega) ?_
    refine J.iincN d_D_stop_34 rfl rfl (by decide) rfl ?_
    refine J.goto d_D_stop_37 (tgt := 17) (by decide) ?_
    have := lp_D_stop hd j (i + 1) (by omega)
    rw [← fz_up (by omega)] at this
    exact this
theorem con_D_stop {d : Nat} (hd : d < 8) : Con l i_D_stop [.ref 5, .int (nI d)] (CM K Mo dr dl ou ol da eq al fr tk by_ ln pl X) (.inl (none, (CM K Mo dr dl ou ol da eq (up al d 0) (up fr d 10) (fz tk d 10) by_ ln pl X))) := by
  refine Con.of ?_
  refine J.aload_n d_D_stop_0 rfl rfl ?_
  refine J.getfield d_D_stop_1 fl_D_9 rfl rfl ?_
  refine J.iload_n d_D_stop_4 rfl rfl ?_
  refine J.iconst d_D_stop_5 (v := nI 0) (by decide) ?_
  refine J.bastoreN d_D_stop_6 rfl (by omega) (by omega) (by omega) ?_
  refine J.aload_n d_D_stop_7 rfl rfl ?_
  refine J.getfield d_D_stop_8 fl_D_15 rfl rfl ?_
  refine J.iload_n d_D_stop_11 rfl rfl ?_
  refine J.bipush d_D_stop_12 (v := nI 10) (by decide) ?_
  refine J.iastoreN d_D_stop_14 rfl (by omega) (by omega) ?_
  refine J.iconst d_D_stop_15 (v := nI 0) (by decide) ?_
  refine J.istore_n d_D_stop_16 rfl (by decide) rfl ?_
  have e : fz tk d 0 = tk := by funext q; simp [fz]
  have := lp_D_stop (l := l) (K := K) (Mo := Mo) (dl := dl) (ol := ol) (dr := dr) (ou := ou) (da := da) (eq := eq) (al := up al d 0) (fr := up fr d 10) (tk := tk) (by_ := by_) (ln := ln) (pl := pl) (X := X) hd 10 0 (by omega)
  rw [e] at this
  exact this
theorem lp_D_takeSlot {d s : Nat} (hd : d < 8) (hs : s < 10) (h0 : tk (16 * d + s) = 0) (h1 : ∀ i, i < s → tk (16 * d + i) = 1) (hf : 0 < fr d) : ∀ (j i : Nat), i + j = s → ∀ lv3, lv3 = [] ∨ (∃ x : Nat, lv3 = [(3, .int (nI x))]) →
    J l i_D_takeSlot 2 ([(0, .ref 5), (1, .int (nI d)), (2, .int (nI i))] ++ lv3) [] (CM K Mo dr dl ou ol da eq al fr tk by_ ln pl X) 0 0 (.inl (some (.int (nI (16 * d + s))), (CM K Mo dr dl ou ol da eq al (up fr d (fr d - 1)) (up tk (16 * d + s) 1) by_ ln pl X)))
  | 0, i, hi, lv3, h3 => by
    rw [show i = s by omega]
    rcases h3 with rfl | ⟨x, rfl⟩
    all_goals
      dsimp only [List.append_nil, List.cons_append, List.nil_append]
      refine J.iload_n d_D_takeSlot_2 rfl rfl ?_
      refine J.bipush d_D_takeSlot_3 (v := nI 10) (by decide) ?_
      refine J.icmp_geN d_D_takeSlot_5 (tgt := 48) (by decide) (by omega) (by omega) (fun h => ?_) (fun h => ?_)
      · omega
      refine J.iload_n d_D_takeSlot_8 rfl rfl ?_
      refine J.iload_n d_D_takeSlot_9 rfl rfl ?_
      refine J.n2i (con_V_placeAt d s _) k_D_takeSlot_V_placeAt d_D_takeSlot_10 rfl ?_
      refine J.istore_n d_D_takeSlot_13 rfl (by decide) rfl ?_
      refine J.aload_n d_D_takeSlot_14 rfl rfl ?_
      refine J.getfield d_D_takeSlot_15 fl_D_19 rfl rfl ?_
      refine J.iload_n d_D_takeSlot_18 rfl rfl ?_
      refine J.baloadN d_D_takeSlot_19 rfl (by omega) (by omega) ?_
      rw [h0]
      refine J.if_neN d_D_takeSlot_20 (tgt := 42) (by decide) (by omega) (fun h => ?_) (fun h => ?_)
      · exact absurd rfl h
      refine J.aload_n d_D_takeSlot_23 rfl rfl ?_
      refine J.getfield d_D_takeSlot_24 fl_D_19 rfl rfl ?_
      refine J.iload_n d_D_takeSlot_27 rfl rfl ?_
      refine J.iconst d_D_takeSlot_28 (v := nI 1) (by decide) ?_
      refine J.bastoreN d_D_takeSlot_29 rfl (by omega) (by omega) (by omega) ?_
      refine J.aload_n d_D_takeSlot_30 rfl rfl ?_
      refine J.getfield d_D_takeSlot_31 fl_D_15 rfl rfl ?_
      refine J.iload_n d_D_takeSlot_34 rfl rfl ?_
      refine J.dup2 d_D_takeSlot_35 rfl rfl ?_
      refine J.ialoadN d_D_takeSlot_36 rfl (by omega) (by omega) ?_
      refine J.iconst d_D_takeSlot_37 (v := nI 1) (by decide) ?_
      refine J.isubN d_D_takeSlot_38 (by omega) ?_
      refine J.iastoreN d_D_takeSlot_39 rfl (by omega) (by omega) ?_
      refine J.iload_n d_D_takeSlot_40 rfl rfl ?_
      exact J.ireturn d_D_takeSlot_41 rfl (by decide) (by decide)
  | j + 1, i, hi, lv3, h3 => by
    have h1i := h1 i (by omega)
    rcases h3 with rfl | ⟨x, rfl⟩
    all_goals
      dsimp only [List.append_nil, List.cons_append, List.nil_append]
      refine J.iload_n d_D_takeSlot_2 rfl rfl ?_
      refine J.bipush d_D_takeSlot_3 (v := nI 10) (by decide) ?_
      refine J.icmp_geN d_D_takeSlot_5 (tgt := 48) (by decide) (by omega) (by omega) (fun h => ?_) (fun h => ?_)
      · omega
      refine J.iload_n d_D_takeSlot_8 rfl rfl ?_
      refine J.iload_n d_D_takeSlot_9 rfl rfl ?_
      refine J.n2i (con_V_placeAt d i _) k_D_takeSlot_V_placeAt d_D_takeSlot_10 rfl ?_
      refine J.istore_n d_D_takeSlot_13 rfl (by decide) rfl ?_
      refine J.aload_n d_D_takeSlot_14 rfl rfl ?_
      refine J.getfield d_D_takeSlot_15 fl_D_19 rfl rfl ?_
      refine J.iload_n d_D_takeSlot_18 rfl rfl ?_
      refine J.baloadN d_D_takeSlot_19 rfl (by omega) (by omega) ?_
      rw [h1i]
      refine J.if_neN d_D_takeSlot_20 (tgt := 42) (by decide) (by omega) (fun h => ?_) (fun h => ?_)
      · refine J.iincN d_D_takeSlot_42 rfl rfl (by decide) rfl ?_
        refine J.goto d_D_takeSlot_45 (tgt := 2) (by decide) ?_
        exact lp_D_takeSlot hd hs h0 h1 hf j (i + 1) (by omega) [(3, .int (nI (16 * d + i)))] (Or.inr ⟨_, rfl⟩)
      · exact absurd h (by decide)
theorem con_D_takeSlot {d s : Nat} (hd : d < 8) (hs : s < 10) (h0 : tk (16 * d + s) = 0) (h1 : ∀ i, i < s → tk (16 * d + i) = 1) (hf : 0 < fr d) : Con l i_D_takeSlot [.ref 5, .int (nI d)] (CM K Mo dr dl ou ol da eq al fr tk by_ ln pl X) (.inl (some (.int (nI (16 * d + s))), (CM K Mo dr dl ou ol da eq al (up fr d (fr d - 1)) (up tk (16 * d + s) 1) by_ ln pl X))) := by
  refine Con.of ?_
  refine J.iconst d_D_takeSlot_0 (v := nI 0) (by decide) ?_
  refine J.istore_n d_D_takeSlot_1 rfl (by decide) rfl ?_
  exact lp_D_takeSlot hd hs h0 h1 hf s 0 (by omega) [] (Or.inl rfl)
end CAT
