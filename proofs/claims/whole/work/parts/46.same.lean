/-! .. what both have read -/
theorem Sol_congr {K : Nat} {A B : MT} {D : Nat → Nat} (h : ∀ k, k < K → (∀ j, j < K → A k j = B k j) ∧ A k 4 = B k 4) (hs : Sol K B D) : Sol K A D := by
  intro k hk
  obtain ⟨h1, h2⟩ := h k hk
  rw [h2, ← hs k hk]
  exact xs_congr K (fun j hj => by rw [h1 j hj])
theorem Sol_end {K : Nat} {A : MT} {D : Nat → Nat} (hD : ∀ j, D j < 256) (hs : Sol K A D) (he : ∀ k, k < K → ∀ j, j < K → A k j = dl1 k j) {k : Nat} (hk : k < K) : A k 4 = D k := by
  rw [← hs k hk, xs_congr (g := fun j => gm (dl1 k j) (D j)) K (fun j hj => by rw [he k hk j hj]), xs_delta hD, if_pos hk]
def mC (K : Nat) (x : ED) (t : Nat) : MT := fun l c => if c = 4 then x.2 (l * 4 + t) else x.1 (l * K + c)
theorem lns_at {K p : Nat} {y : ED} (hp : p < K) : ∀ n, n ≤ K → (∀ l c, l < K → c < K → (lns K p n y).1 (l * K + c) = if l < n ∧ l ≠ p then y.1 (l * K + c) ^^^ gm (y.1 (p * K + c)) (y.1 (l * K + p)) else y.1 (l * K + c)) ∧ (∀ l t, l < K → t < 4 → (lns K p n y).2 (l * 4 + t) = if l < n ∧ l ≠ p then y.2 (l * 4 + t) ^^^ gm (y.2 (p * 4 + t)) (y.1 (l * K + p)) else y.2 (l * 4 + t))
  | 0, _ => ⟨fun l c _ _ => by rw [if_neg (by omega)]; rfl, fun l t _ _ => by rw [if_neg (by omega)]; rfl⟩
  | n + 1, hn => by
    obtain ⟨i1, i2⟩ := lns_at (y := y) hp n (by omega)
    have ez := i1 n p (by omega) hp
    rw [if_neg (by omega)] at ez
    show (∀ l c, l < K → c < K → (lnS K p n (lns K p n y)).1 (l * K + c) = _) ∧ (∀ l t, l < K → t < 4 → (lnS K p n (lns K p n y)).2 (l * 4 + t) = _)
    by_cases hc : n = p ∨ (lns K p n y).1 (n * K + p) = 0
    · have e : lnS K p n (lns K p n y) = lns K p n y := by unfold lnS; rw [if_pos hc]
      rw [e]
      refine ⟨fun l c hl hc2 => ?_, fun l t hl ht => ?_⟩
      · rw [i1 l c hl hc2]
        by_cases hl2 : l = n
        · subst hl2
          rw [if_neg (by omega)]
          rcases hc with z | z
          · rw [if_neg (by omega)]
          · rw [ez] at z
            rw [z, gm_x0, Nat.xor_zero]
            split <;> rfl
        · have : (l < n + 1 ∧ l ≠ p) ↔ (l < n ∧ l ≠ p) := by omega
          simp only [this]
      · rw [i2 l t hl ht]
        by_cases hl2 : l = n
        · subst hl2
          rw [if_neg (by omega)]
          rcases hc with z | z
          · rw [if_neg (by omega)]
          · rw [ez] at z
            rw [z, gm_x0, Nat.xor_zero]
            split <;> rfl
        · have : (l < n + 1 ∧ l ≠ p) ↔ (l < n ∧ l ≠ p) := by omega
          simp only [this]
    · have e : lnS K p n (lns K p n y) = (addR K (lns K p n y).1 n p (y.1 (n * K + p)) K, addR 4 (lns K p n y).2 n p (y.1 (n * K + p)) 4) := by unfold lnS; rw [if_neg hc, ez]
      rw [e]
      have hnp : n ≠ p := fun z => hc (Or.inl z)
      refine ⟨fun l c hl hc2 => ?_, fun l t hl ht => ?_⟩
      · show addR K (lns K p n y).1 n p (y.1 (n * K + p)) K (l * K + c) = _
        unfold addR
        rw [dm_div hc2, dm_mod hc2, i1 l c hl hc2, i1 p c hp hc2, if_neg (show ¬ (p < n ∧ p ≠ p) by omega)]
        by_cases hl2 : l = n
        · subst hl2
          rw [if_pos ⟨rfl, hc2⟩, if_neg (by omega), if_pos (by omega)]
        · rw [if_neg (by omega)]
          have : (l < n + 1 ∧ l ≠ p) ↔ (l < n ∧ l ≠ p) := by omega
          simp only [this]
      · show addR 4 (lns K p n y).2 n p (y.1 (n * K + p)) 4 (l * 4 + t) = _
        unfold addR
        rw [dm_div ht, dm_mod ht, i2 l t hl ht, i2 p t hp ht, if_neg (show ¬ (p < n ∧ p ≠ p) by omega)]
        by_cases hl2 : l = n
        · subst hl2
          rw [if_pos ⟨rfl, ht⟩, if_neg (by omega), if_pos (by omega)]
        · rw [if_neg (by omega)]
          have : (l < n + 1 ∧ l ≠ p) ↔ (l < n ∧ l ≠ p) := by omega
          simp only [this]
theorem mC_lt {K : Nat} {x : ED} {t : Nat} (h : b256 x) (l c : Nat) : mC K x t l c < 256 := by
  unfold mC; split
  · exact h.2 _
  · exact h.1 _
theorem pvS_gj {K p t : Nat} {x : ED} (hb : b256 x) (hK4 : K ≤ 4) (hp : p < K) (ht : t < 4) {l : Nat} (hl : l < K) : (∀ c, c < K → mC K (pvS K p x) t l c = gj p p (mC K x t) l c) ∧ mC K (pvS K p x) t l 4 = gj p p (mC K x t) l 4 := by
  obtain ⟨i1, i2⟩ := lns_at (K := K) (p := p) (y := (mulR K x.1 p (gi (x.1 (p * K + p))) K, mulR 4 x.2 p (gi (x.1 (p * K + p))) 4)) hp K (Nat.le_refl _)
  have m1 : ∀ l c, c < K → mulR K x.1 p (gi (x.1 (p * K + p))) K (l * K + c) = sj p p (mC K x t) l c := fun l c hc => by
    unfold mulR sj mC
    rw [dm_div hc, dm_mod hc, if_neg (show ¬ c = 4 by omega), if_neg (show ¬ p = 4 by omega), if_neg (show ¬ c = 4 by omega)]
    by_cases h : l = p
    · rw [if_pos ⟨h, hc⟩, if_pos h, h, gm_comm (hb.1 _) (gi_lt _)]
    · rw [if_neg (fun z => h z.1), if_neg h, if_neg h]
  have m2 : ∀ l, mulR 4 x.2 p (gi (x.1 (p * K + p))) 4 (l * 4 + t) = sj p p (mC K x t) l 4 := fun l => by
    unfold mulR sj mC
    rw [dm_div ht, dm_mod ht, if_neg (show ¬ p = 4 by omega)]
    by_cases h : l = p
    · rw [if_pos ⟨h, ht⟩, if_pos h, h, if_pos rfl, gm_comm (hb.2 _) (gi_lt _)]
    · rw [if_neg (fun z => h z.1), if_neg h, if_neg h, if_pos rfl]
  have hs := sj_lt (p := p) (q := p) (mC_lt (K := K) (t := t) hb)
  refine ⟨fun c hc => ?_, ?_⟩
  · have e : mC K (pvS K p x) t l c = (pvS K p x).1 (l * K + c) := by unfold mC; rw [if_neg (by omega)]
    rw [e]
    show (lns K p K _).1 _ = _
    rw [i1 l c hl hc]
    dsimp only
    rw [m1 l c hc, m1 p c hc, m1 l p hp]
    unfold gj
    by_cases h : l = p
    · rw [if_neg (by omega), if_pos h, h]
    · rw [if_pos ⟨hl, h⟩, if_neg h, gm_comm (hs _ _) (hs _ _)]
  · have e : mC K (pvS K p x) t l 4 = (pvS K p x).2 (l * 4 + t) := by unfold mC; rw [if_pos rfl]
    rw [e]
    show (lns K p K _).2 _ = _
    rw [i2 l t hl ht]
    dsimp only
    rw [m2 l, m2 p, m1 l p hp]
    unfold gj
    by_cases h : l = p
    · rw [if_neg (by omega), if_pos h, h]
    · rw [if_pos ⟨hl, h⟩, if_neg h, gm_comm (hs _ _) (hs _ _)]
theorem pvs_sol {K t : Nat} {x : ED} {D : Nat → Nat} (hb : b256 x) (hK4 : K ≤ 4) (ht : t < 4) (hD : ∀ j, D j < 256) (hs : Sol K (mC K x t) D) : ∀ n, n ≤ K → Sol K (mC K (pvs K n x) t) D
  | 0, _ => hs
  | n + 1, hn => by
    have ih := pvs_sol hb hK4 ht hD hs n (by omega)
    have hbn := pvs_b (K := K) hb n
    exact Sol_congr (fun k hk => pvS_gj hbn hK4 (by omega) ht hk) (gj_sol (mC_lt hbn) hD (by omega) (by omega) ih)
theorem pvs_ag {K t : Nat} {x : ED} {A : MT} (hb : b256 x) (hK4 : K ≤ 4) (ht : t < 4) (h : AgK K (mC K x t) A) : ∀ n, n ≤ K → AgK K (mC K (pvs K n x) t) (ruC K 8 A n)
  | 0, _ => h
  | n + 1, hn => by
    have ih := pvs_ag hb hK4 ht h n (by omega)
    have hbn := pvs_b (K := K) hb n
    have hg := gj_ag (p := n) (q := n) (by omega) (by omega) ih
    intro k hk j hj
    rw [show mC K (pvs K (n + 1) x) t k j = gj n n (mC K (pvs K n x) t) k j from (pvS_gj hbn hK4 (by omega) ht hk).1 j hj, hg k hk j hj]
    show _ = mem K 8 _ k j
    rw [mem_at hk (by omega)]
theorem eqL_at {K : Nat} {eq τ : Nat → Nat} {l c : Nat} (hc : c < K) : ∀ n, eqL K eq τ n (l * K + c) = if l < n then fac K (τ l * K + c) else eq (l * K + c)
  | 0 => rfl
  | n + 1 => by
    show va_cpy _ _ _ _ _ _ = _
    unfold va_cpy
    rcases Nat.lt_trichotomy l n with h | h | h
    · have := Nat.mul_le_mul_right K (show l + 1 ≤ n by omega)
      rw [Nat.succ_mul] at this
      rw [if_neg (by omega), eqL_at hc n, if_pos h, if_pos (by omega)]
    · subst h
      rw [if_pos (by omega), if_pos (by omega), show l * K + c - l * K = c by omega]
    · have := Nat.mul_le_mul_right K (show n + 1 ≤ l by omega)
      rw [Nat.succ_mul] at this
      rw [if_neg (by omega), eqL_at hc n, if_neg (by omega), if_neg (by omega)]
theorem d4_at {da : Nat → Nat} {line : Nat} {g : Nat → Nat} {l t : Nat} (ht : t < 4) : ∀ n, n ≤ 4 → d4 da line g n (l * 4 + t) = if l = line ∧ t < n then g t else da (l * 4 + t)
  | 0, _ => by rw [if_neg (by omega)]; rfl
  | n + 1, hn => by
    show up _ _ _ _ = _
    by_cases h : l * 4 + t = line * 4 + n
    · have h1 : l = line := by omega
      have h2 : t = n := by omega
      rw [h, up_self, if_pos (by omega), h2]
    · rw [up_ne _ _ h, d4_at ht n (by omega)]
      have : (l = line ∧ t < n + 1) ↔ (l = line ∧ t < n) := by omega
      simp only [this]
theorem daL_at {da : Nat → Nat} {v : Nat → Nat → Nat} {τ : Nat → Nat} {l t : Nat} (ht : t < 4) : ∀ n, daL da v τ n (l * 4 + t) = if l < n then v (τ l) t else da (l * 4 + t)
  | 0 => rfl
  | n + 1 => by
    show d4 _ _ _ 4 _ = _
    rw [d4_at ht 4 (Nat.le_refl _), daL_at ht n]
    by_cases h : l = n
    · subst h
      rw [if_pos ⟨rfl, ht⟩, if_pos (by omega)]
    · rw [if_neg (fun z => h z.1)]
      have : (l < n + 1) ↔ (l < n) := by omega
      simp only [this]
theorem kpS_congr {ls ls' : Nat → Bool} {K Sh : Nat} (h : ∀ i, i < Sh → ls i = ls' i) : ∀ n, n ≤ Sh → kpS ls K n = kpS ls' K n
  | 0, _ => rfl
  | n + 1, hn => by
    unfold kpS
    rw [kpS_congr h n (by omega), h n (by omega)]
theorem m7_sh (ls : Nat → Bool) : ∀ Sh, Sh < 8 → m7 (fun h => decide (h < Sh) && ls h) < 2 ^ Sh := by
  have h0 := b2n_lt (ls 0); have h1 := b2n_lt (ls 1); have h2 := b2n_lt (ls 2); have h3 := b2n_lt (ls 3); have h4 := b2n_lt (ls 4); have h5 := b2n_lt (ls 5); have h6 := b2n_lt (ls 6)
  have hbf : b2n false = 0 := rfl
  intro Sh hS
  rcases (show Sh = 0 ∨ Sh = 1 ∨ Sh = 2 ∨ Sh = 3 ∨ Sh = 4 ∨ Sh = 5 ∨ Sh = 6 ∨ Sh = 7 by omega) with rfl | rfl | rfl | rfl | rfl | rfl | rfl | rfl <;> unfold m7 <;> simp [hbf] <;> omega
/-- the table, for a set of lost shards -/
theorem tabl {K Mo : Nat} {ls : Nat → Bool} (hK : 0 < K) (hK4 : K ≤ 4) (hM0 : 0 < Mo) (hM : Mo ≤ 3) (hn : cs (fun h => b2n (ls h)) (K + Mo) ≤ Mo) : chkA ls K (K + Mo) = true ∧ chkB ls K (K + Mo) = true ∧ chkR ls K (K + Mo) = true := by
  have hm := m7_sh ls (K + Mo) (by omega)
  have hag : ∀ i, i < K + Mo → ls i = (m7 (fun h => decide (h < K + Mo) && ls h)).testBit i := fun i hi => by
    rw [← m7_at _ (by omega)]
    simp [hi]
  generalize m7 (fun h => decide (h < K + Mo) && ls h) = m at hm hag
  have e : cs (fun h => b2n (m.testBit h)) (K + Mo) = cs (fun h => b2n (ls h)) (K + Mo) := cs_congr _ (fun i hi => by rw [hag i hi])
  have hc : (decide (¬ cs (fun h => b2n (m.testBit h)) (K + Mo) ≤ Mo) || chk m K (K + Mo)) = true := by
    rcases (show K = 1 ∨ K = 2 ∨ K = 3 ∨ K = 4 by omega) with rfl | rfl | rfl | rfl
    · have := List.all_eq_true.mp (List.all_eq_true.mp chk_1 (Mo - 1) (List.mem_range.mpr (by omega))) m (List.mem_range.mpr (by rw [show Mo - 1 + 1 = Mo by omega]; exact hm))
      rw [show Mo - 1 + 1 = Mo by omega] at this
      exact this
    · have := List.all_eq_true.mp (List.all_eq_true.mp chk_2 (Mo - 1) (List.mem_range.mpr (by omega))) m (List.mem_range.mpr (by rw [show Mo - 1 + 1 = Mo by omega]; exact hm))
      rw [show Mo - 1 + 1 = Mo by omega] at this
      exact this
    · have := List.all_eq_true.mp (List.all_eq_true.mp chk_3 (Mo - 1) (List.mem_range.mpr (by omega))) m (List.mem_range.mpr (by rw [show Mo - 1 + 1 = Mo by omega]; exact hm))
      rw [show Mo - 1 + 1 = Mo by omega] at this
      exact this
    · have := List.all_eq_true.mp (List.all_eq_true.mp chk_4 (Mo - 1) (List.mem_range.mpr (by omega))) m (List.mem_range.mpr (by rw [show Mo - 1 + 1 = Mo by omega]; exact hm))
      rw [show Mo - 1 + 1 = Mo by omega] at this
      exact this
  rw [e, decide_eq_false (by omega), Bool.false_or] at hc
  unfold chk at hc
  simp only [Bool.and_eq_true] at hc
  have e1 := selS_congr (K := K) (Sh := K + Mo) (by omega) hag K (Nat.le_refl _)
  have e2 := kpS_congr (K := K) hag (K + Mo) (Nat.le_refl _)
  obtain ⟨c1, c2, c3⟩ := hc
  unfold chkA endC mtC at c1 ⊢
  unfold chkB at c2 ⊢
  unfold chkR mtR at c3 ⊢
  rw [e1, e2]
  exact ⟨c1, c2, c3⟩
/-- a stripe's data, read -/
def rdD (K Sh : Nat) (ls : Nat → Bool) (v : Nat → Nat → Nat) (i : Nat) : Nat := if i < 4 * K then xs (fun l => gm (endC ls K Sh (i / 4) (4 + l)) (v ((selS ls K Sh K).2.2 l) (i % 4))) K else 0
section SAME
variable {K Mo : Nat} {ls : Nat → Bool} {v : Nat → Nat → Nat}
theorem endC_I (hK : 0 < K) (hK4 : K ≤ 4) (hM0 : 0 < Mo) (hM : Mo ≤ 3) (hn : cs (fun h => b2n (ls h)) (K + Mo) ≤ Mo) {k j : Nat} (hk : k < K) (hj : j < K) : endC ls K (K + Mo) k j = dl1 k j ∧ endC ls K (K + Mo) k (4 + j) < 256 ∧ xs (fun i => gm (mtC ls K (K + Mo) k i) (endC ls K (K + Mo) i (4 + j))) K = dl1 k j := by
  have h := al2_at (tabl hK hK4 hM0 hM hn).1 hk hj
  simpa only [Bool.and_eq_true, decide_eq_true_eq] using h
theorem rdD_lt (hK : 0 < K) (hK4 : K ≤ 4) (hM0 : 0 < Mo) (hM : Mo ≤ 3) (hn : cs (fun h => b2n (ls h)) (K + Mo) ≤ Mo) (i : Nat) : rdD K (K + Mo) ls v i < 256 := by
  unfold rdD; split
  · exact xs_lt K (fun l hl => gm_lt (endC_I hK hK4 hM0 hM hn (by omega) hl).2.1)
  · decide
theorem mtC_at (hK : 0 < K) (hK4 : K ≤ 4) (hM0 : 0 < Mo) (hM : Mo ≤ 3) (hn : cs (fun h => b2n (ls h)) (K + Mo) ≤ Mo) {k j : Nat} (hk : k < K) (hj : j < K) : mtC ls K (K + Mo) k j = fac K ((selS ls K (K + Mo) K).2.2 k * K + j) := by
  unfold mtC
  rw [mem_at hk (by omega), if_pos (by omega)]
/-- it solves every line's equation -/
theorem rdD_line (hK : 0 < K) (hK4 : K ≤ 4) (hM0 : 0 < Mo) (hM : Mo ≤ 3) (hn : cs (fun h => b2n (ls h)) (K + Mo) ≤ Mo) (hv : ∀ h t, v h t < 256) {k t : Nat} (hk : k < K) (ht : t < 4) : xs (fun j => gm (fac K ((selS ls K (K + Mo) K).2.2 k * K + j)) (rdD K (K + Mo) ls v (j * 4 + t))) K = v ((selS ls K (K + Mo) K).2.2 k) t := by
  have e1 : xs (fun j => gm (fac K ((selS ls K (K + Mo) K).2.2 k * K + j)) (rdD K (K + Mo) ls v (j * 4 + t))) K = xs (fun j => xs (fun i => gm (gm (mtC ls K (K + Mo) k j) (endC ls K (K + Mo) j (4 + i))) (v ((selS ls K (K + Mo) K).2.2 i) t)) K) K := by
    refine xs_congr K (fun j hj => ?_)
    unfold rdD
    rw [if_pos (by omega), dm_div ht, dm_mod ht, ← xs_gm]
    refine xs_congr K (fun i hi => ?_)
    rw [mtC_at hK hK4 hM0 hM hn hk hj, gm_assoc (fac_lt K _) (endC_I hK hK4 hM0 hM hn hj hi).2.1 (hv _ _)]
  rw [e1, xs_swap, xs_congr (g := fun i => gm (dl1 k i) (v ((selS ls K (K + Mo) K).2.2 i) t)) K (fun i hi => ?_), xs_delta (fun i => hv _ _), if_pos hk]
  rw [gm_xs _ _ K (fun j hj => gm_lt (by rw [mtC_at hK hK4 hM0 hM hn hk hj]; exact fac_lt K _)), (endC_I hK hK4 hM0 hM hn hk hi).2.2]
/-- what the class has read -/
theorem rdC_eq (hK : 0 < K) (hK4 : K ≤ 4) (hM0 : 0 < Mo) (hM : Mo ≤ 3) (hn : cs (fun h => b2n (ls h)) (K + Mo) ≤ Mo) (hv : ∀ h t, v h t < 256) {eq da : Nat → Nat} (he : ∀ i, eq i < 256) (hda : ∀ i, da i < 256) {i : Nat} (hi : i < 4 * K) : (rdC K (K + Mo) ls v eq da).2 i = rdD K (K + Mo) ls v i := by
  have ht : i % 4 < 4 := by omega
  have hl : i / 4 < K := by omega
  have hD := rdD_lt (v := v) hK hK4 hM0 hM hn
  have hb : b256 (eqL K eq (selS ls K (K + Mo) K).2.2 K, daL da v (selS ls K (K + Mo) K).2.2 K) := ⟨eqL_lt he K, daL_lt hda hv K⟩
  have h1 : ∀ k, k < K → ∀ j, j < K → mC K (eqL K eq (selS ls K (K + Mo) K).2.2 K, daL da v (selS ls K (K + Mo) K).2.2 K) (i % 4) k j = mtC ls K (K + Mo) k j := fun k hk j hj => by
    rw [mtC_at hK hK4 hM0 hM hn hk hj]
    unfold mC
    rw [if_neg (by omega)]
    show eqL _ _ _ _ _ = _
    rw [eqL_at hj, if_pos hk]
  have hs : Sol K (mC K (eqL K eq (selS ls K (K + Mo) K).2.2 K, daL da v (selS ls K (K + Mo) K).2.2 K) (i % 4)) (fun j => rdD K (K + Mo) ls v (j * 4 + i % 4)) := by
    intro k hk
    have e4 : mC K (eqL K eq (selS ls K (K + Mo) K).2.2 K, daL da v (selS ls K (K + Mo) K).2.2 K) (i % 4) k 4 = v ((selS ls K (K + Mo) K).2.2 k) (i % 4) := by
      unfold mC
      rw [if_pos rfl]
      show daL _ _ _ _ _ = _
      rw [daL_at ht, if_pos hk]
    rw [e4, ← rdD_line hK hK4 hM0 hM hn hv hk ht]
    exact xs_congr K (fun j hj => by rw [h1 k hk j hj, mtC_at hK hK4 hM0 hM hn hk hj])
  have fin : ∀ x : ED, Sol K (mC K x (i % 4)) (fun j => rdD K (K + Mo) ls v (j * 4 + i % 4)) → AgK K (mC K x (i % 4)) (endC ls K (K + Mo)) → x.2 i = rdD K (K + Mo) ls v i := fun x z1 z2 => by
    have := Sol_end (fun j => hD _) z1 (fun k hk j hj => by rw [z2 k hk j hj, (endC_I hK hK4 hM0 hM hn hk hj).1]) hl
    unfold mC at this
    rw [if_pos rfl, show i / 4 * 4 + i % 4 = i by omega] at this
    exact this
  unfold rdC
  by_cases hz : (selS ls K (K + Mo) K).2.1 = 0
  · rw [if_pos hz]
    refine fin _ (pvs_sol hb hK4 ht (fun j => hD _) hs K (Nat.le_refl _)) ?_
    unfold endC
    rw [if_pos hz]
    exact pvs_ag hb hK4 ht h1 K (Nat.le_refl _)
  · rw [if_neg hz]
    refine fin _ hs ?_
    unfold endC
    rw [if_neg hz]
    exact h1
end SAME
