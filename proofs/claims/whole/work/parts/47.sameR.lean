/-! .. and the reference -/
def mR (rw : Nat → Nat) : MT := fun k j => rw (5 * k + j)
theorem swJ_at {r : Nat → Nat} {f p c k j : Nat} (hj : j < 5) : ∀ n, n ≤ 5 → swJ r f p c n (5 * k + j) = if j < n then (if k = c then gm f (r (5 * p + j)) else if k = p then r (5 * c + j) else r (5 * k + j)) else r (5 * k + j)
  | 0, _ => rfl
  | n + 1, hn => by
    have e1 := swJ_at (r := r) (f := f) (p := p) (c := c) (k := c) (show n < 5 by omega) n (by omega)
    have e2 := swJ_at (r := r) (f := f) (p := p) (c := c) (k := p) (show n < 5 by omega) n (by omega)
    rw [if_neg (Nat.lt_irrefl _)] at e1 e2
    show up (up _ _ _) _ _ _ = _
    rw [e1, e2]
    by_cases hjn : j = n
    · subst hjn
      rw [if_pos (Nat.lt_succ_self _)]
      by_cases hk : k = c
      · rw [if_pos hk, hk, up_self]
      · rw [if_neg hk, up_ne _ _ (by omega)]
        by_cases hp : k = p
        · rw [if_pos hp, hp, up_self]
        · rw [if_neg hp, up_ne _ _ (by omega), swJ_at hj j (by omega), if_neg (Nat.lt_irrefl _)]
    · rw [up_ne _ _ (by omega), up_ne _ _ (by omega), swJ_at hj n (by omega)]
      have : (j < n + 1) ↔ (j < n) := by omega
      simp only [this]
theorem elJ_at {r : Nat → Nat} {k0 g c k j : Nat} (hj : j < 5) (hne : k0 ≠ c) : ∀ n, n ≤ 5 → elJ r k0 g c n (5 * k + j) = if k = k0 ∧ j < n then r (5 * k + j) ^^^ gm g (r (5 * c + j)) else r (5 * k + j)
  | 0, _ => by rw [if_neg (by omega)]; rfl
  | n + 1, hn => by
    have e1 := elJ_at (r := r) (g := g) (k := k0) (show n < 5 by omega) hne n (by omega)
    have e2 := elJ_at (r := r) (g := g) (k := c) (show n < 5 by omega) hne n (by omega)
    rw [if_neg (by omega)] at e1 e2
    show up _ _ _ _ = _
    rw [e1, e2]
    by_cases h : 5 * k + j = 5 * k0 + n
    · have h1 : k = k0 := by omega
      have h2 : j = n := by omega
      rw [h, up_self, if_pos (by omega), h2]
    · rw [up_ne _ _ h, elJ_at hj hne n (by omega)]
      have : (k = k0 ∧ j < n + 1) ↔ (k = k0 ∧ j < n) := by omega
      simp only [this]
theorem elJ_0 {r : Nat → Nat} {k c : Nat} : ∀ n, elJ r k 0 c n = r
  | 0 => rfl
  | n + 1 => by
    show up _ _ _ = _
    rw [elJ_0 n, gm_0x, Nat.xor_zero, up_same rfl]
theorem elK_at {r : Nat → Nat} {c k j : Nat} (hc : c < 5) (hj : j < 5) : ∀ n, elK r c n (5 * k + j) = if k < n ∧ k ≠ c then r (5 * k + j) ^^^ gm (r (5 * k + c)) (r (5 * c + j)) else r (5 * k + j)
  | 0 => by rw [if_neg (by omega)]; rfl
  | n + 1 => by
    show elJ _ _ (if _ then _ else _) _ _ _ = _
    by_cases hnc : n = c
    · rw [if_pos hnc, elJ_0, elK_at hc hj n]
      have : (k < n + 1 ∧ k ≠ c) ↔ (k < n ∧ k ≠ c) := by omega
      simp only [this]
    · have e1 := elK_at (r := r) (k := n) hc hc n
      rw [if_neg (by omega)] at e1
      have e2 := elK_at (r := r) (k := c) hc hj n
      rw [if_neg (by omega)] at e2
      rw [if_neg hnc, elJ_at hj hnc 5 (Nat.le_refl _), e1, e2, elK_at hc hj n]
      by_cases hk : k = n
      · subst hk
        rw [if_pos ⟨rfl, hj⟩, if_neg (by omega), if_pos (by omega)]
      · rw [if_neg (fun z => hk z.1)]
        have : (k < n + 1 ∧ k ≠ c) ↔ (k < n ∧ k ≠ c) := by omega
        simp only [this]
theorem fp_fpM {r : Nat → Nat} {c : Nat} : ∀ n p, fp r c n p = fpM (mR r) c n p
  | 0, _ => rfl
  | n + 1, p => by
    unfold fp fpM
    rw [fp_fpM n (p + 1)]
    rfl
theorem fpM_ge (A : MT) (c : Nat) : ∀ n p, p ≤ fpM A c n p
  | 0, p => Nat.le_refl _
  | n + 1, p => by
    unfold fpM; split
    · have := fpM_ge A c n (p + 1); omega
    · exact Nat.le_refl _
theorem fpM_congr {K : Nat} {A B : MT} {c : Nat} (h : ∀ k, k < K → A k c = B k c) : ∀ n p, fpM A c n p < K → A (fpM A c n p) c ≠ 0 → fpM B c n p = fpM A c n p
  | 0, _, _, _ => rfl
  | n + 1, p, h1, h2 => by
    unfold fpM at h1 h2 ⊢
    by_cases hz : A p c = 0
    · rw [if_pos hz] at h1 h2 ⊢
      have := fpM_ge A c n (p + 1)
      rw [← h p (by omega), if_pos hz]
      exact fpM_congr h n (p + 1) h1 h2
    · rw [if_neg hz] at h1 h2 ⊢
      rw [← h p h1, if_neg hz]
theorem svS_gj {K : Nat} {r : Nat → Nat} {c k j : Nat} (hK4 : K ≤ 4) (hc : c < K) (hk : k < K) (hj : j < 5) : mR (svS K r (c + 1)) k j = gj c (fp (svS K r c) c 4 c) (mR (svS K r c)) k j := by
  show elK _ _ _ _ = _
  rw [elK_at (by omega) hj, swJ_at hj 5 (Nat.le_refl _), swJ_at (show c < 5 by omega) 5 (Nat.le_refl _), swJ_at hj 5 (Nat.le_refl _), if_pos hj, if_pos (show c < 5 by omega), if_pos hj]
  unfold gj
  by_cases h : k = c
  · rw [if_neg (by omega), if_pos h]
    unfold sj
    rw [if_pos h, if_pos rfl]
    rfl
  · rw [if_pos ⟨hk, h⟩, if_neg h]
    unfold sj
    rw [if_neg h, if_neg h, if_neg h, if_neg h, if_pos rfl, if_pos rfl]
    rfl
theorem svS_sol {K : Nat} {r : Nat → Nat} {D : Nat → Nat} (hr : ∀ i, r i < 256) (hK4 : K ≤ 4) (hD : ∀ j, D j < 256) (hok : svOk K r) (hs : Sol K (mR r) D) : ∀ n, n ≤ K → Sol K (mR (svS K r n)) D
  | 0, _ => hs
  | n + 1, hn => by
    have ih := svS_sol hr hK4 hD hok hs n (by omega)
    have hb := svS_lt (K := K) hr n
    exact Sol_congr (fun k hk => ⟨fun j hj => svS_gj hK4 (by omega) hk (by omega), svS_gj hK4 (by omega) hk (by omega)⟩) (gj_sol (fun k j => hb _) hD (by omega) (hok n (by omega)).1 ih)
theorem svS_ag {K : Nat} {r : Nat → Nat} {A : MT} (hK4 : K ≤ 4) (h : AgK K (mR r) A) (hA : ∀ c, c < K → fpM (ruR K 4 A c) c 4 c < K ∧ ruR K 4 A c (fpM (ruR K 4 A c) c 4 c) c ≠ 0) : ∀ n, n ≤ K → AgK K (mR (svS K r n)) (ruR K 4 A n)
  | 0, _ => h
  | n + 1, hn => by
    have ih := svS_ag hK4 h hA n (by omega)
    obtain ⟨a1, a2⟩ := hA n (by omega)
    have e : fp (svS K r n) n 4 n = fpM (ruR K 4 A n) n 4 n := by
      rw [fp_fpM]
      exact fpM_congr (fun k hk => (ih k hk n (by omega)).symm) 4 n a1 a2
    have hg := gj_ag (p := n) (by omega) a1 ih
    intro k hk j hj
    rw [svS_gj hK4 (by omega) hk (by omega), e, hg k hk j hj]
    show _ = mem K 4 _ k j
    rw [mem_at hk (by omega)]
theorem svOk_of {K : Nat} {r : Nat → Nat} {A : MT} (hK4 : K ≤ 4) (h : AgK K (mR r) A) (hA : ∀ c, c < K → fpM (ruR K 4 A c) c 4 c < K ∧ ruR K 4 A c (fpM (ruR K 4 A c) c 4 c) c ≠ 0) : svOk K r := by
  intro c hc
  have ih := svS_ag hK4 h hA c (by omega)
  obtain ⟨a1, a2⟩ := hA c hc
  have e : fp (svS K r c) c 4 c = fpM (ruR K 4 A c) c 4 c := by
    rw [fp_fpM]
    exact fpM_congr (fun k hk => (ih k hk c hc).symm) 4 c a1 a2
  rw [e]
  refine ⟨a1, ?_⟩
  have := ih _ a1 c hc
  unfold mR at this
  rw [this]
  exact a2
theorem rwF_at {K : Nat} {r : Nat → Nat} {k h l j : Nat} (hj : j < 5) : ∀ n, n ≤ 5 → rwF K r k h n (5 * l + j) = if l = k ∧ j < n then fac K (h * K + j) else r (5 * l + j)
  | 0, _ => by rw [if_neg (by omega)]; rfl
  | n + 1, hn => by
    show up _ _ _ _ = _
    by_cases h : 5 * l + j = 5 * k + n
    · have h1 : l = k := by omega
      have h2 : j = n := by omega
      rw [h, up_self, if_pos (by omega), h2]
    · rw [up_ne _ _ h, rwF_at hj n (by omega)]
      have : (l = k ∧ j < n + 1) ↔ (l = k ∧ j < n) := by omega
      simp only [this]
theorem wrS_at {K : Nat} {ls : Nat → Bool} {v r : Nat → Nat} (hK4 : K ≤ 4) : ∀ n, (wrS K ls v r n).1 = (kpS ls K n).1 ∧ ∀ l, l < (kpS ls K n).1 → (∀ j, j < K → (wrS K ls v r n).2 (5 * l + j) = fac K ((kpS ls K n).2 l * K + j)) ∧ (wrS K ls v r n).2 (5 * l + 4) = v ((kpS ls K n).2 l)
  | 0 => ⟨rfl, fun l hl => absurd hl (Nat.not_lt_zero _)⟩
  | n + 1 => by
    obtain ⟨i1, i2⟩ := wrS_at (ls := ls) (v := v) (r := r) hK4 n
    unfold wrS kpS
    rw [i1]
    by_cases h : (kpS ls K n).1 < K ∧ ls n = false
    · rw [if_pos h, if_pos h]
      refine ⟨rfl, fun l hl => ?_⟩
      have hl' : l < (kpS ls K n).1 + 1 := hl
      dsimp only
      by_cases hl2 : l = (kpS ls K n).1
      · rw [hl2, up_self]
        refine ⟨fun j hj => ?_, up_self _ _ _⟩
        rw [up_ne _ _ (by omega), rwF_at (by omega) K (by omega), if_pos ⟨rfl, hj⟩]
      · rw [up_ne _ _ hl2]
        obtain ⟨q1, q2⟩ := i2 l (by omega)
        refine ⟨fun j hj => ?_, ?_⟩
        · rw [up_ne _ _ (by omega), rwF_at (by omega) K (by omega), if_neg (by omega)]
          exact q1 j hj
        · rw [up_ne _ _ (by omega), rwF_at (by omega) K (by omega), if_neg (by omega)]
          exact q2
    · rw [if_neg h, if_neg h]
      exact ⟨i1, i2⟩
section SAMER
variable {K Mo : Nat} {ls : Nat → Bool} {v : Nat → Nat → Nat}
theorem wrT_ag (hK : 0 < K) (hK4 : K ≤ 4) (hM0 : 0 < Mo) (hM : Mo ≤ 3) (hn : cs (fun h => b2n (ls h)) (K + Mo) ≤ Mo) (r : Nat → Nat) (t : Nat) : AgK K (mR (wrT K (K + Mo) ls v r t)) (mtR ls K (K + Mo)) ∧ ∀ k, k < K → mR (wrT K (K + Mo) ls v r t) k 4 = v ((kpS ls K (K + Mo)).2 k) t := by
  have hB := (tabl hK hK4 hM0 hM hn).2.1
  unfold chkB at hB
  simp only [Bool.and_eq_true, decide_eq_true_eq] at hB
  obtain ⟨i1, i2⟩ := wrS_at (ls := ls) (v := fun h => v h t) (r := r) hK4 (K + Mo)
  rw [hB.1] at i2
  refine ⟨fun k hk j hj => ?_, fun k hk => (i2 k hk).2⟩
  unfold mtR
  rw [mem_at hk (by omega)]
  exact (i2 k hk).1 j hj
theorem mtR_ok (hK : 0 < K) (hK4 : K ≤ 4) (hM0 : 0 < Mo) (hM : Mo ≤ 3) (hn : cs (fun h => b2n (ls h)) (K + Mo) ≤ Mo) : (∀ c, c < K → fpM (ruR K 4 (mtR ls K (K + Mo)) c) c 4 c < K ∧ ruR K 4 (mtR ls K (K + Mo)) c (fpM (ruR K 4 (mtR ls K (K + Mo)) c) c 4 c) c ≠ 0) ∧ ∀ k, k < K → ∀ j, j < K → ruR K 4 (mtR ls K (K + Mo)) K k j = dl1 k j := by
  have hR := (tabl hK hK4 hM0 hM hn).2.2
  unfold chkR at hR
  rw [Bool.and_eq_true] at hR
  refine ⟨fun c hc => ?_, fun k hk j hj => of_decide_eq_true (al2_at hR.2 hk hj)⟩
  have := List.all_eq_true.mp hR.1 c (List.mem_range.mpr hc)
  simpa only [Bool.and_eq_true, decide_eq_true_eq] using this
theorem svOk_wr (hK : 0 < K) (hK4 : K ≤ 4) (hM0 : 0 < Mo) (hM : Mo ≤ 3) (hn : cs (fun h => b2n (ls h)) (K + Mo) ≤ Mo) (r : Nat → Nat) (t : Nat) : svOk K (wrT K (K + Mo) ls v r t) :=
  svOk_of hK4 (wrT_ag hK hK4 hM0 hM hn r t).1 (mtR_ok hK hK4 hM0 hM hn).1
theorem sv_end (hK : 0 < K) (hK4 : K ≤ 4) (hM0 : 0 < Mo) (hM : Mo ≤ 3) (hn : cs (fun h => b2n (ls h)) (K + Mo) ≤ Mo) (hv : ∀ h t, v h t < 256) {r : Nat → Nat} (hr : ∀ i, r i < 256) {t k : Nat} (ht : t < 4) (hk : k < K) : svS K (wrT K (K + Mo) ls v r t) K (5 * k + 4) = rdD K (K + Mo) ls v (k * 4 + t) := by
  obtain ⟨w1, w2⟩ := wrT_ag (v := v) hK hK4 hM0 hM hn r t
  obtain ⟨o1, o2⟩ := mtR_ok (ls := ls) hK hK4 hM0 hM hn
  have hB := (tabl hK hK4 hM0 hM hn).2.1
  unfold chkB at hB
  simp only [Bool.and_eq_true, decide_eq_true_eq] at hB
  have hD := rdD_lt (v := v) hK hK4 hM0 hM hn
  have hs : Sol K (mR (wrT K (K + Mo) ls v r t)) (fun j => rdD K (K + Mo) ls v (j * 4 + t)) := by
    intro k hk
    have := List.all_eq_true.mp hB.2 k (List.mem_range.mpr hk)
    obtain ⟨m, hm, em⟩ := List.any_eq_true.mp this
    have em := of_decide_eq_true em
    rw [w2 k hk, em, ← rdD_line hK hK4 hM0 hM hn hv (List.mem_range.mp hm) ht]
    refine xs_congr K (fun j hj => ?_)
    rw [w1 k hk j hj]
    unfold mtR
    rw [mem_at hk (by omega), em]
  exact Sol_end (fun j => hD _) (svS_sol (wrS_lt hr (fun h => hv h t) (K + Mo)) hK4 (fun j => hD _) (svOk_wr hK hK4 hM0 hM hn r t) hs K (Nat.le_refl _)) (fun k hk j hj => (svS_ag hK4 w1 o1 K (Nat.le_refl _) k hk j hj).trans (o2 k hk j hj)) hk
theorem stj_at {s r : Nat → Nat} {t j u : Nat} (ht : t < 4) (hu : u < 4) : ∀ n, stj s r t n (j * 4 + u) = if j < n ∧ u = t then r (5 * j + 4) else s (j * 4 + u)
  | 0 => by rw [if_neg (by omega)]; rfl
  | n + 1 => by
    show up _ _ _ _ = _
    by_cases h : j * 4 + u = 4 * n + t
    · have h1 : j = n := by omega
      rw [h, up_self, if_pos (by omega), h1]
    · rw [up_ne _ _ h, stj_at ht hu n]
      have : (j < n + 1 ∧ u = t) ↔ (j < n ∧ u = t) := by omega
      simp only [this]
/-- what the reference has read -/
theorem rdR_at (hK : 0 < K) (hK4 : K ≤ 4) (hM0 : 0 < Mo) (hM : Mo ≤ 3) (hn : cs (fun h => b2n (ls h)) (K + Mo) ≤ Mo) (hv : ∀ h t, v h t < 256) {x : ED} (hx : b256 x) {j u : Nat} (hj : j < K) (hu : u < 4) : ∀ n, n ≤ 4 → u < n → (rdR K (K + Mo) ls v x n).2 (j * 4 + u) = rdD K (K + Mo) ls v (j * 4 + u)
  | 0, _, h => absurd h (Nat.not_lt_zero _)
  | n + 1, hn4, h => by
    have hb := rdR_b (K := K) (Sh := K + Mo) (ls := ls) hx hv n
    show stj _ _ n K _ = _
    rw [stj_at (by omega) hu]
    by_cases hz : u = n
    · rw [if_pos ⟨hj, hz⟩, hz]
      exact sv_end hK hK4 hM0 hM hn hv hb.1 (by omega) hj
    · rw [if_neg (fun z => hz z.2)]
      exact rdR_at hK hK4 hM0 hM hn hv hx hj hu n (by omega) (by omega)
theorem rdR_eq (hK : 0 < K) (hK4 : K ≤ 4) (hM0 : 0 < Mo) (hM : Mo ≤ 3) (hn : cs (fun h => b2n (ls h)) (K + Mo) ≤ Mo) (hv : ∀ h t, v h t < 256) {x : ED} (hx : b256 x) {i : Nat} (hi : i < 4 * K) : (rdR K (K + Mo) ls v x 4).2 i = rdD K (K + Mo) ls v i := by
  have := rdR_at hK hK4 hM0 hM hn hv hx (j := i / 4) (u := i % 4) (by omega) (by omega) 4 (Nat.le_refl _) (by omega)
  rw [show i / 4 * 4 + i % 4 = i by omega] at this
  exact this
end SAMER
