/-! A stripe that isn't gone has a shard for every line -/
theorem nkB_congr {ls ls' : Nat → Bool} {Sh : Nat} (h : ∀ i, i < Sh → ls i = ls' i) : ∀ n i, nkB ls Sh n i = nkB ls' Sh n i
  | 0, _ => rfl
  | n + 1, i => by
    unfold nkB
    by_cases hi : i < Sh
    · rw [h i hi, nkB_congr h n]
    · rw [if_neg (fun z => hi z.1), if_neg (fun z => hi z.1)]
theorem selS_congr {ls ls' : Nat → Bool} {K Sh : Nat} (hK : K ≤ Sh) (h : ∀ i, i < Sh → ls i = ls' i) : ∀ j, j ≤ K → selS ls K Sh j = selS ls' K Sh j
  | 0, _ => rfl
  | j + 1, hj => by
    unfold selS
    rw [selS_congr hK h j (by omega), h j (by omega), nkB_congr h]
/-- seven bits as a number -/
def m7 (ls : Nat → Bool) : Nat := b2n (ls 0) + 2 * b2n (ls 1) + 4 * b2n (ls 2) + 8 * b2n (ls 3) + 16 * b2n (ls 4) + 32 * b2n (ls 5) + 64 * b2n (ls 6)
theorem m7_tab : ∀ m, m < 128 → ∀ h, h < 7 → (m.testBit h = decide (m / 2 ^ h % 2 = 1)) := by decide +kernel
theorem m7_lt (ls : Nat → Bool) : m7 ls < 128 := by
  have h0 := b2n_lt (ls 0); have h1 := b2n_lt (ls 1); have h2 := b2n_lt (ls 2); have h3 := b2n_lt (ls 3); have h4 := b2n_lt (ls 4); have h5 := b2n_lt (ls 5); have h6 := b2n_lt (ls 6)
  unfold m7; omega
theorem b2n_one (b : Bool) : decide (b2n b = 1) = b := by cases b <;> rfl
theorem m7_at (ls : Nat → Bool) {h : Nat} (hh : h < 7) : ls h = (m7 ls).testBit h := by
  rw [m7_tab _ (m7_lt ls) h hh]
  have h0 := b2n_lt (ls 0); have h1 := b2n_lt (ls 1); have h2 := b2n_lt (ls 2); have h3 := b2n_lt (ls 3); have h4 := b2n_lt (ls 4); have h5 := b2n_lt (ls 5); have h6 := b2n_lt (ls 6)
  rw [← b2n_one (ls h)]
  congr 1
  rcases (show h = 0 ∨ h = 1 ∨ h = 2 ∨ h = 3 ∨ h = 4 ∨ h = 5 ∨ h = 6 by omega) with rfl | rfl | rfl | rfl | rfl | rfl | rfl <;> unfold m7 <;> simp only [Nat.reducePow, Nat.div_one] <;> apply propext <;> omega
/-- the check, by numbers -/
def selB (m K Mo : Nat) : Bool := (List.range K).all (fun j => decide ((selS (fun h => m.testBit h) K (K + Mo) (j + 1)).2.2 j < K + Mo) && !(m.testBit ((selS (fun h => m.testBit h) K (K + Mo) (j + 1)).2.2 j)) && decide ((selS (fun h => m.testBit h) K (K + Mo) j).1 ≤ K + Mo) && decide ((selS (fun h => m.testBit h) K (K + Mo) K).2.2 j = (selS (fun h => m.testBit h) K (K + Mo) (j + 1)).2.2 j))
theorem selB_tab : (List.range 4).all (fun K => (List.range 3).all (fun Mo => (List.range 128).all (fun m => decide (¬ cs (fun h => b2n (m.testBit h)) (K + 1 + (Mo + 1)) ≤ Mo + 1) || selB m (K + 1) (Mo + 1)))) = true := by decide +kernel
theorem selOk_of {K Mo : Nat} {ls : Nat → Bool} (hK : 0 < K) (hK4 : K ≤ 4) (hM0 : 0 < Mo) (hM : Mo ≤ 3) (hn : cs (fun h => b2n (ls h)) (K + Mo) ≤ Mo) : selOk ls K (K + Mo) := by
  have hb := List.all_eq_true.mp (List.all_eq_true.mp (List.all_eq_true.mp selB_tab (K - 1) (List.mem_range.mpr (by omega))) (Mo - 1) (List.mem_range.mpr (by omega))) (m7 ls) (List.mem_range.mpr (m7_lt ls))
  rw [show K - 1 + 1 = K by omega, show Mo - 1 + 1 = Mo by omega] at hb
  have hag : ∀ i, i < K + Mo → ls i = (m7 ls).testBit i := fun i hi => m7_at ls (by omega)
  have e : cs (fun h => b2n ((m7 ls).testBit h)) (K + Mo) = cs (fun h => b2n (ls h)) (K + Mo) := cs_congr _ (fun i hi => by rw [hag i hi])
  rw [e, decide_eq_false (by omega), Bool.false_or] at hb
  intro j hj
  have := List.all_eq_true.mp hb j (List.mem_range.mpr hj)
  simp only [Bool.and_eq_true, decide_eq_true_eq, Bool.not_eq_true'] at this
  obtain ⟨⟨⟨h1, h2⟩, h3⟩, h4⟩ := this
  rw [selS_congr (ls' := fun h => (m7 ls).testBit h) (by omega) hag (j + 1) (by omega), selS_congr (ls' := fun h => (m7 ls).testBit h) (by omega) hag j (by omega), selS_congr (ls' := fun h => (m7 ls).testBit h) (by omega) hag K (Nat.le_refl _)]
  exact ⟨h1, by rw [hag _ h1]; exact h2, h3, h4⟩
theorem nl_ls (pl : Nat → Nat) (o s Sh : Nat) : nl pl o s Sh = cs (fun h => b2n (lsB pl o s h)) Sh := by
  unfold nl
  refine cs_congr Sh (fun h _ => ?_)
  unfold z1 lsB b2n
  by_cases h0 : pl (56 * o + 7 * s + h) = 0 <;> simp [h0]
theorem selOk_nl {K Mo : Nat} {pl : Nat → Nat} {o s : Nat} (hK : 0 < K) (hK4 : K ≤ 4) (hM0 : 0 < Mo) (hM : Mo ≤ 3) (hn : nl pl o s (K + Mo) ≤ Mo) : selOk (lsB pl o s) K (K + Mo) := selOk_of hK hK4 hM0 hM (by rw [← nl_ls]; exact hn)
