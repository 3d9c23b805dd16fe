/-! Reading a stripe, the pure part: both ways of solving give the one solution -/
theorem p2l : ∀ n, n < 8 → 2 ^ n < 256 := by decide
theorem p2e : ∀ n, n < 8 → 2 ^ (n + 1) ≤ 256 := by decide
theorem pw2_tab : (List.range 8).all (fun n => (List.range 256).all (fun x => decide (2 ^ n ≤ x ∧ x < 2 ^ (n + 1) → x = 2 ^ n ^^^ (x - 2 ^ n)))) = true := by decide +kernel
theorem pw2 {n x : Nat} (hn : n < 8) (h1 : 2 ^ n ≤ x) (h2 : x < 2 ^ (n + 1)) : x = 2 ^ n ^^^ (x - 2 ^ n) := by
  have hx : x < 256 := Nat.lt_of_lt_of_le h2 (p2e _ (by omega))
  have := List.all_eq_true.mp (List.all_eq_true.mp pw2_tab n (List.mem_range.mpr hn)) x (List.mem_range.mpr hx)
  exact of_decide_eq_true this ⟨h1, h2⟩
/-- two additive maps that agree on the bits agree -/
theorem add_ext {F G : Nat → Nat} (hF : ∀ x y, x < 256 → y < 256 → F (x ^^^ y) = F x ^^^ F y) (hG : ∀ x y, x < 256 → y < 256 → G (x ^^^ y) = G x ^^^ G y) (hb : ∀ i, i < 8 → F (2 ^ i) = G (2 ^ i)) : ∀ n, n ≤ 8 → ∀ x, x < 2 ^ n → F x = G x
  | 0, _, x, hx => by
    have h0 : x = 0 := by simpa using hx
    subst h0
    have h1 := hF 0 0 (by decide) (by decide)
    have h2 := hG 0 0 (by decide) (by decide)
    rw [Nat.xor_self, Nat.xor_self] at h1 h2
    rw [h1, h2]
  | n + 1, hn, x, hx => by
    rcases Nat.lt_or_ge x (2 ^ n) with h | h
    · exact add_ext hF hG hb n (by omega) x h
    · have e := pw2 (by omega) h hx
      have hp : 2 ^ n < 256 := p2l _ (by omega)
      have hx2 : x < 256 := Nat.lt_of_lt_of_le hx (p2e _ (by omega))
      rw [e, hF _ _ hp (by omega), hG _ _ hp (by omega), hb n (by omega), add_ext hF hG hb n (by omega) (x - 2 ^ n) (by rw [Nat.pow_succ] at hx; omega)]
theorem gm_x0 (a : Nat) : gm a 0 = 0 := by
  have := gm_addR a 0 0
  rw [Nat.xor_self, Nat.xor_self] at this
  exact this
theorem gm_0x (b : Nat) : gm 0 b = 0 := by
  have := gm_addL (a := 0) (a' := 0) (b := b) (by decide) (by decide)
  rw [Nat.xor_self, Nat.xor_self] at this
  exact this
theorem gm_comm_tab : (List.range 8).all (fun i => (List.range 8).all (fun j => decide (gm (2 ^ i) (2 ^ j) = gm (2 ^ j) (2 ^ i)))) = true := by decide +kernel
theorem gm_comm {a b : Nat} (ha : a < 256) (hb : b < 256) : gm a b = gm b a := by
  refine add_ext (F := fun x => gm x b) (G := fun x => gm b x) (fun x y hx hy => gm_addL hx hy) (fun x y _ _ => gm_addR b x y) (fun i hi => ?_) 8 (Nat.le_refl _) a ha
  have hp : 2 ^ i < 256 := p2l _ (by omega)
  refine add_ext (F := fun x => gm (2 ^ i) x) (G := fun x => gm x (2 ^ i)) (fun x y _ _ => gm_addR _ x y) (fun x y hx hy => gm_addL hx hy) (fun j hj => ?_) 8 (Nat.le_refl _) b hb
  exact of_decide_eq_true (List.all_eq_true.mp (List.all_eq_true.mp gm_comm_tab i (List.mem_range.mpr hi)) j (List.mem_range.mpr hj))
theorem gm_assoc_tab : (List.range 8).all (fun i => (List.range 8).all (fun j => (List.range 8).all (fun k => decide (gm (gm (2 ^ i) (2 ^ j)) (2 ^ k) = gm (2 ^ i) (gm (2 ^ j) (2 ^ k)))))) = true := by decide +kernel
theorem gm_assoc {a b c : Nat} (ha : a < 256) (hb : b < 256) (hc : c < 256) : gm (gm a b) c = gm a (gm b c) := by
  refine add_ext (F := fun x => gm (gm x b) c) (G := fun x => gm x (gm b c)) (fun x y hx hy => ?_) (fun x y hx hy => gm_addL hx hy) (fun i hi => ?_) 8 (Nat.le_refl _) a ha
  · show gm (gm (x ^^^ y) b) c = gm (gm x b) c ^^^ gm (gm y b) c
    rw [gm_addL hx hy, gm_addL (gm_lt hx) (gm_lt hy)]
  have hp : 2 ^ i < 256 := p2l _ (by omega)
  refine add_ext (F := fun x => gm (gm (2 ^ i) x) c) (G := fun x => gm (2 ^ i) (gm x c)) (fun x y hx hy => ?_) (fun x y hx hy => ?_) (fun j hj => ?_) 8 (Nat.le_refl _) b hb
  · show gm (gm (2 ^ i) (x ^^^ y)) c = gm (gm (2 ^ i) x) c ^^^ gm (gm (2 ^ i) y) c
    rw [gm_addR, gm_addL (gm_lt hp) (gm_lt hp)]
  · show gm (2 ^ i) (gm (x ^^^ y) c) = gm (2 ^ i) (gm x c) ^^^ gm (2 ^ i) (gm y c)
    rw [gm_addL hx hy, gm_addR]
  have hq : 2 ^ j < 256 := p2l _ (by omega)
  refine add_ext (F := fun x => gm (gm (2 ^ i) (2 ^ j)) x) (G := fun x => gm (2 ^ i) (gm (2 ^ j) x)) (fun x y _ _ => gm_addR _ x y) (fun x y _ _ => ?_) (fun k hk => ?_) 8 (Nat.le_refl _) c hc
  · show gm (2 ^ i) (gm (2 ^ j) (x ^^^ y)) = gm (2 ^ i) (gm (2 ^ j) x) ^^^ gm (2 ^ i) (gm (2 ^ j) y)
    rw [gm_addR, gm_addR]
  exact of_decide_eq_true (List.all_eq_true.mp (List.all_eq_true.mp (List.all_eq_true.mp gm_assoc_tab i (List.mem_range.mpr hi)) j (List.mem_range.mpr hj)) k (List.mem_range.mpr hk))
/-- sums -/
def xs (f : Nat → Nat) : Nat → Nat
  | 0 => 0
  | n + 1 => xs f n ^^^ f n
theorem xs_congr {f g : Nat → Nat} : ∀ n, (∀ i, i < n → f i = g i) → xs f n = xs g n
  | 0, _ => rfl
  | n + 1, h => by
    show xs f n ^^^ f n = xs g n ^^^ g n
    rw [xs_congr n (fun i hi => h i (by omega)), h n (by omega)]
theorem xs_xor (f g : Nat → Nat) : ∀ n, xs (fun i => f i ^^^ g i) n = xs f n ^^^ xs g n
  | 0 => by show (0 : Nat) = 0 ^^^ 0; decide
  | n + 1 => by
    show xs _ n ^^^ (f n ^^^ g n) = (xs f n ^^^ f n) ^^^ (xs g n ^^^ g n)
    rw [xs_xor f g n, x4]
theorem xs_gm (a : Nat) (f : Nat → Nat) : ∀ n, xs (fun i => gm a (f i)) n = gm a (xs f n)
  | 0 => (gm_x0 a).symm
  | n + 1 => by
    show xs _ n ^^^ gm a (f n) = gm a (xs f n ^^^ f n)
    rw [gm_addR, xs_gm a f n]
theorem xs_lt {f : Nat → Nat} : ∀ n, (∀ i, i < n → f i < 256) → xs f n < 256
  | 0, _ => by show (0 : Nat) < 256; decide
  | n + 1, h => xor_lt (xs_lt n (fun i hi => h i (by omega))) (h n (by omega))
theorem gm_xs (b : Nat) (f : Nat → Nat) : ∀ n, (∀ i, i < n → f i < 256) → xs (fun i => gm (f i) b) n = gm (xs f n) b
  | 0, _ => (gm_0x b).symm
  | n + 1, h => by
    show xs _ n ^^^ gm (f n) b = gm (xs f n ^^^ f n) b
    rw [gm_addL (xs_lt n (fun i hi => h i (by omega))) (h n (by omega)), gm_xs b f n (fun i hi => h i (by omega))]
theorem xs_0 : ∀ n, xs (fun _ => 0) n = 0
  | 0 => rfl
  | n + 1 => by show xs _ n ^^^ 0 = 0; rw [xs_0 n]; rfl
theorem xs_swap (f : Nat → Nat → Nat) (m : Nat) : ∀ n, xs (fun i => xs (fun j => f i j) m) n = xs (fun j => xs (fun i => f i j) n) m
  | 0 => (xs_0 m).symm
  | n + 1 => by
    show xs _ n ^^^ xs (fun j => f n j) m = xs (fun j => xs (fun i => f i j) n ^^^ f n j) m
    rw [xs_xor, xs_swap f m n]
def dl1 (i k : Nat) : Nat := if i = k then 1 else 0
theorem xs_delta {f : Nat → Nat} {k : Nat} (hf : ∀ i, f i < 256) : ∀ n, xs (fun i => gm (dl1 k i) (f i)) n = if k < n then f k else 0
  | 0 => rfl
  | n + 1 => by
    show xs _ n ^^^ gm (dl1 k n) (f n) = _
    rw [xs_delta hf n]
    unfold dl1
    by_cases h : k = n
    · subst h
      rw [if_pos rfl, (gm_one (hf k)).1, if_neg (Nat.lt_irrefl _), if_pos (Nat.lt_succ_self _), Nat.zero_xor]
    · rw [if_neg h, gm_0x, Nat.xor_zero]
      by_cases h2 : k < n
      · rw [if_pos h2, if_pos (by omega)]
      · rw [if_neg h2, if_neg (by omega)]
abbrev MT : Type := Nat → Nat → Nat
/-- row q scaled comes to row p -/
def sj (p q : Nat) (A : MT) : MT := fun k j => if k = p then gm (gi (A q p)) (A q j) else if k = q then A p j else A k j
/-- .. and column p swept -/
def gj (p q : Nat) (A : MT) : MT := fun k j => if k = p then sj p q A p j else sj p q A k j ^^^ gm (sj p q A k p) (sj p q A p j)
def Sol (K : Nat) (A : MT) (D : Nat → Nat) : Prop := ∀ k, k < K → xs (fun j => gm (A k j) (D j)) K = A k 4
theorem sj_lt {p q : Nat} {A : MT} (hA : ∀ k j, A k j < 256) (k j : Nat) : sj p q A k j < 256 := by
  unfold sj; split
  · exact gm_lt (gi_lt _)
  · split
    · exact hA _ _
    · exact hA _ _
theorem gj_lt {p q : Nat} {A : MT} (hA : ∀ k j, A k j < 256) (k j : Nat) : gj p q A k j < 256 := by
  unfold gj; split
  · exact sj_lt hA _ _
  · exact xor_lt (sj_lt hA _ _) (gm_lt (sj_lt hA _ _))
theorem sj_sol {K p q : Nat} {A : MT} {D : Nat → Nat} (hA : ∀ k j, A k j < 256) (hD : ∀ j, D j < 256) (hp : p < K) (hq : q < K) (h : Sol K A D) : Sol K (sj p q A) D := by
  intro k hk
  by_cases h1 : k = p
  · have e : ∀ j, sj p q A k j = gm (gi (A q p)) (A q j) := fun j => by unfold sj; rw [if_pos h1]
    rw [e 4, ← h q hq, ← xs_gm]
    exact xs_congr K (fun j _ => by rw [e j, gm_assoc (gi_lt _) (hA _ _) (hD _)])
  · by_cases h2 : k = q
    · have e : ∀ j, sj p q A k j = A p j := fun j => by unfold sj; rw [if_neg h1, if_pos h2]
      rw [e 4, ← h p hp]
      exact xs_congr K (fun j _ => by rw [e j])
    · have e : ∀ j, sj p q A k j = A k j := fun j => by unfold sj; rw [if_neg h1, if_neg h2]
      rw [e 4, ← h k hk]
      exact xs_congr K (fun j _ => by rw [e j])
theorem gj_sol {K p q : Nat} {A : MT} {D : Nat → Nat} (hA : ∀ k j, A k j < 256) (hD : ∀ j, D j < 256) (hp : p < K) (hq : q < K) (h : Sol K A D) : Sol K (gj p q A) D := by
  intro k hk
  have hs := sj_sol hA hD hp hq h
  by_cases h1 : k = p
  · have e : ∀ j, gj p q A k j = sj p q A p j := fun j => by unfold gj; rw [if_pos h1]
    rw [e 4, ← hs p hp]
    exact xs_congr K (fun j _ => by rw [e j])
  · have e : ∀ j, gj p q A k j = sj p q A k j ^^^ gm (sj p q A k p) (sj p q A p j) := fun j => by unfold gj; rw [if_neg h1]
    rw [e 4, ← hs p hp, ← hs k hk, ← xs_gm, ← xs_xor]
    refine xs_congr K (fun j _ => ?_)
    rw [e j, gm_addL (sj_lt hA _ _) (gm_lt (sj_lt hA _ _)), gm_assoc (sj_lt hA _ _) (sj_lt hA _ _) (hD _)]
/-- tables agree on the first K rows and columns -/
def AgK (K : Nat) (A B : MT) : Prop := ∀ k, k < K → ∀ j, j < K → A k j = B k j
theorem sj_ag {K p q : Nat} {A B : MT} (hp : p < K) (hq : q < K) (h : AgK K A B) : AgK K (sj p q A) (sj p q B) := by
  intro k hk j hj
  unfold sj
  rw [h q hq p hp, h q hq j hj, h p hp j hj, h k hk j hj]
theorem gj_ag {K p q : Nat} {A B : MT} (hp : p < K) (hq : q < K) (h : AgK K A B) : AgK K (gj p q A) (gj p q B) := by
  intro k hk j hj
  have hs := sj_ag hp hq h
  unfold gj
  rw [hs p hp j hj, hs k hk j hj, hs k hk p hp]
/-- a table written out -/
def mem (K W : Nat) (A : MT) : MT := fun k j => (((List.range K).map (fun k => (List.range W).map (fun j => A k j))).getD k []).getD j 0
theorem mem_at {K W k j : Nat} {A : MT} (hk : k < K) (hj : j < W) : mem K W A k j = A k j := by
  simp [mem, List.getD, hk, hj]
