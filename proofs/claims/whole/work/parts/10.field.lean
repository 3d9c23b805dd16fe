/-! The field of 256: doubling, products, inverses, as both sides work them out -/
def gd (d : Nat) : Nat := if 256 ≤ 2 * d then (2 * d) ^^^ 285 else 2 * d
def gL : Nat → Nat → Nat → Nat → Nat
  | 0, _, s, _ => s
  | k + 1, b, s, d => gL k (b / 2) (if b % 2 = 1 then s ^^^ d else s) (gd d)
def gm (a b : Nat) : Nat := gL 8 b 0 a
theorem gd_tab : (List.range 256).all (fun x => decide (gd x < 256)) = true := by decide +kernel
theorem gd_lt {x : Nat} (h : x < 256) : gd x < 256 := by
  have := List.all_eq_true.mp gd_tab x (List.mem_range.mpr h)
  simpa using this
theorem xor_lt {x y : Nat} (hx : x < 256) (hy : y < 256) : x ^^^ y < 256 := Nat.xor_lt_two_pow (n := 8) hx hy
theorem gL_lt : ∀ (k b s d : Nat), s < 256 → d < 256 → gL k b s d < 256
  | 0, _, _, _, hs, _ => hs
  | k + 1, b, s, d, hs, hd => by
    unfold gL
    refine gL_lt k _ _ _ ?_ (gd_lt hd)
    split
    · exact xor_lt hs hd
    · exact hs
theorem gm_lt {a b : Nat} (ha : a < 256) : gm a b < 256 := gL_lt 8 b 0 a (by decide) ha
theorem gd_xor_tab : (List.range 256).all (fun x => (List.range 256).all (fun y => decide (gd (x ^^^ y) = gd x ^^^ gd y))) = true := by decide +kernel
theorem gd_xor {x y : Nat} (hx : x < 256) (hy : y < 256) : gd (x ^^^ y) = gd x ^^^ gd y := by
  have := List.all_eq_true.mp (List.all_eq_true.mp gd_xor_tab x (List.mem_range.mpr hx)) y (List.mem_range.mpr hy)
  simpa using this
theorem x4 (a b c d : Nat) : (a ^^^ b) ^^^ (c ^^^ d) = (a ^^^ c) ^^^ (b ^^^ d) := by
  rw [Nat.xor_assoc, Nat.xor_assoc, ← Nat.xor_assoc b c d, Nat.xor_comm b c, Nat.xor_assoc c b d]
/-- a product is additive on its left -/
theorem gL_addL : ∀ (k b s s' d d' : Nat), d < 256 → d' < 256 → gL k b (s ^^^ s') (d ^^^ d') = gL k b s d ^^^ gL k b s' d'
  | 0, _, _, _, _, _, _, _ => rfl
  | k + 1, b, s, s', d, d', hd, hd' => by
    unfold gL
    rw [gd_xor hd hd']
    split
    · rw [x4]; exact gL_addL k _ _ _ _ _ (gd_lt hd) (gd_lt hd')
    · exact gL_addL k _ _ _ _ _ (gd_lt hd) (gd_lt hd')
theorem gm_addL {a a' b : Nat} (ha : a < 256) (ha' : a' < 256) : gm (a ^^^ a') b = gm a b ^^^ gm a' b := by
  have := gL_addL 8 b 0 0 a a' ha ha'
  simpa [gm] using this
theorem xor_mod2 (a b : Nat) : (a ^^^ b) % 2 = (a % 2 + b % 2) % 2 := by
  have h := Nat.testBit_xor a b 0
  simp only [Nat.testBit_zero] at h
  have h1 := Nat.mod_two_eq_zero_or_one a
  have h2 := Nat.mod_two_eq_zero_or_one b
  have h3 := Nat.mod_two_eq_zero_or_one (a ^^^ b)
  rcases h1 with h1 | h1 <;> rcases h2 with h2 | h2 <;> rcases h3 with h3 | h3 <;> simp_all
theorem xor_div2 (a b : Nat) : (a ^^^ b) / 2 = (a / 2) ^^^ (b / 2) := by
  have := Nat.shiftRight_xor_distrib (a := a) (b := b) (i := 1)
  simpa [Nat.shiftRight_eq_div_pow] using this
/-- .. and on its right -/
theorem gL_addR : ∀ (k b b' s s' d : Nat), gL k (b ^^^ b') (s ^^^ s') d = gL k b s d ^^^ gL k b' s' d
  | 0, _, _, _, _, _ => rfl
  | k + 1, b, b', s, s', d => by
    unfold gL
    rw [xor_div2, ← gL_addR k]
    congr 1
    have e := xor_mod2 b b'
    have h1 := Nat.mod_two_eq_zero_or_one b
    have h2 := Nat.mod_two_eq_zero_or_one b'
    rcases h1 with h1 | h1 <;> rcases h2 with h2 | h2 <;> rw [h1, h2] at e <;> simp only [h1, h2, e]
    · simp
    · simp [Nat.xor_assoc]
    · simp [Nat.xor_assoc, Nat.xor_comm s' d]
    · simp only [if_pos, Nat.reduceAdd, Nat.reduceMod]
      rw [x4, Nat.xor_self, Nat.xor_zero]; simp
theorem gm_addR (a b b' : Nat) : gm a (b ^^^ b') = gm a b ^^^ gm a b' := by
  have := gL_addR 8 b b' 0 0 a
  simpa [gm] using this
/-- the inverse as the class works it out: a to the power of 254 -/
def giL : Nat → Nat → Nat → Nat
  | 0, _, w => w
  | k + 1, s, w => giL k (gm s s) (gm w (gm s s))
def gi (a : Nat) : Nat := giL 7 a 1
theorem giL_lt : ∀ (k s w : Nat), w < 256 → giL k s w < 256
  | 0, _, _, h => h
  | k + 1, s, w, h => by unfold giL; exact giL_lt k _ _ (gm_lt h)
theorem gi_lt (a : Nat) : gi a < 256 := giL_lt 7 a 1 (by decide)
theorem gi_one_tab : (List.range 256).all (fun a => decide (a = 0 ∨ (gm a (gi a) = 1 ∧ 0 < gi a))) = true := by decide +kernel
/-- .. and the reference's: the least x with a * x = 1 -/
theorem gi_least_tab : (List.range 256).all (fun a => (List.range (gi a)).all (fun x => decide (gm a x ≠ 1))) = true := by decide +kernel
theorem gi_one {a : Nat} (h0 : 0 < a) (h : a < 256) : gm a (gi a) = 1 ∧ 0 < gi a := by
  have := List.all_eq_true.mp gi_one_tab a (List.mem_range.mpr h)
  simp only [decide_eq_true_eq] at this
  rcases this with z | z
  · omega
  · exact z
theorem gi_least {a x : Nat} (h : a < 256) (hx : x < gi a) : gm a x ≠ 1 := by
  have := List.all_eq_true.mp (List.all_eq_true.mp gi_least_tab a (List.mem_range.mpr h)) x (List.mem_range.mpr hx)
  simpa using this
