/-! The class's places and the reference's: 16 and 10 to a disk, the shards side by side or by seven -/
/-- a place of the reference's (its number plus one, 0: none) as the class has it -/
def tr (x : Nat) : Nat := if x = 0 then 0 else 16 * ((x - 1) / 10) + (x - 1) % 10 + 1
theorem tr_0 : tr 0 = 0 := rfl
theorem tr_s (p : Nat) : tr (p + 1) = 16 * (p / 10) + p % 10 + 1 := by simp [tr]
theorem z1_tr (x : Nat) : z1 (tr x) = z1 x := by
  unfold tr z1
  by_cases h : x = 0
  · simp [h]
  · simp [h]
theorem tr_eq0 {x : Nat} : tr x = 0 ↔ x = 0 := by
  unfold tr
  constructor
  · intro h; split at h
    · assumption
    · omega
  · intro h; simp [h]
def od10 (d x : Nat) : Bool := decide (x ≠ 0) && decide ((x - 1) / 10 = d)
theorem od_tr (d x : Nat) : od d (tr x) = od10 d x := by
  unfold od od10 tr
  by_cases h : x = 0
  · simp [h]
  · simp only [h, if_false, ne_eq, not_false_eq_true, decide_true, Bool.true_and]
    have e2 : ¬ 16 * ((x - 1) / 10) + (x - 1) % 10 + 1 = 0 := by omega
    simp [e2]
    omega
def tkOf (us : Nat → Nat) : Nat → Nat := fun k => if k % 16 < 10 then us (10 * (k / 16) + k % 16) else 0
theorem tk_at (us : Nat → Nat) {d s : Nat} (hs : s < 10) : tkOf us (16 * d + s) = us (10 * d + s) := by
  have h1 : (16 * d + s) / 16 = d := by omega
  have h2 : (16 * d + s) % 16 = s := by omega
  simp [tkOf, h1, h2, hs]
theorem tk_up (us : Nat → Nat) {d s v : Nat} (hs : s < 10) : up (tkOf us) (16 * d + s) v = tkOf (up us (10 * d + s) v) := by
  funext q
  by_cases hq : q = 16 * d + s
  · subst hq
    have h1 : (16 * d + s) / 16 = d := by omega
    have h2 : (16 * d + s) % 16 = s := by omega
    simp [up, tkOf, h1, h2, hs]
  · simp only [up, if_neg hq, tkOf]
    split
    · rw [if_neg (by omega)]
    · rfl
theorem tk_lt {us : Nat → Nat} (h : ∀ i, us i < 2) (q : Nat) : tkOf us q < 2 := by
  unfold tkOf; split
  · exact h _
  · decide
def byOf (by_ : Nat → Nat) : Nat → Nat := fun i => if i / 4 % 16 < 10 then by_ (4 * (10 * (i / 64) + i / 4 % 16) + i % 4) else 0
theorem by_at (by_ : Nat → Nat) {d s t : Nat} (hs : s < 10) (ht : t < 4) : byOf by_ ((16 * d + s) * 4 + t) = by_ (4 * (10 * d + s) + t) := by
  have h1 : ((16 * d + s) * 4 + t) / 64 = d := by omega
  have h2 : ((16 * d + s) * 4 + t) / 4 % 16 = s := by omega
  have h3 : ((16 * d + s) * 4 + t) % 4 = t := by omega
  simp [byOf, h1, h2, h3, hs]
theorem by_up (by_ : Nat → Nat) {d s t v : Nat} (hs : s < 10) (ht : t < 4) : up (byOf by_) ((16 * d + s) * 4 + t) v = byOf (up by_ (4 * (10 * d + s) + t) v) := by
  funext q
  by_cases hq : q = (16 * d + s) * 4 + t
  · subst hq
    have h1 : ((16 * d + s) * 4 + t) / 64 = d := by omega
    have h2 : ((16 * d + s) * 4 + t) / 4 % 16 = s := by omega
    have h3 : ((16 * d + s) * 4 + t) % 4 = t := by omega
    simp [up, byOf, h1, h2, h3, hs]
  · simp only [up, if_neg hq, byOf]
    split
    · rw [if_neg (by omega)]
    · rfl
theorem by_lt {by_ : Nat → Nat} (h : ∀ i, by_ i < 256) (q : Nat) : byOf by_ q < 256 := by
  unfold byOf; split
  · exact h _
  · decide
/-- how many of a disk's slots are used -/
def ud (us : Nat → Nat) (d : Nat) : Nat := cs (fun s => us (10 * d + s)) 10
def frOf (us : Nat → Nat) : Nat → Nat := fun d => if d < 8 then 10 - ud us d else 0
theorem fr_at (us : Nat → Nat) {d : Nat} (hd : d < 8) : frOf us d = 10 - ud us d := by simp [frOf, hd]
theorem cs_congr {f g : Nat → Nat} : ∀ n, (∀ i, i < n → f i = g i) → cs f n = cs g n
  | 0, _ => rfl
  | n + 1, h => by
    unfold cs
    rw [cs_congr n (fun i hi => h i (by omega)), h n (by omega)]
theorem cs_up {f : Nat → Nat} {i v : Nat} : ∀ n, i < n → cs (up f i v) n + f i = cs f n + v
  | 0, h => absurd h (Nat.not_lt_zero _)
  | n + 1, h => by
    unfold cs
    rcases Nat.lt_or_ge i n with h1 | h1
    · have := cs_up (f := f) (v := v) n h1
      rw [up_ne f v (show n ≠ i by omega)]
      omega
    · have : i = n := by omega
      subst this
      rw [up_self, cs_congr (f := up f i v) (g := f) i (fun j hj => up_ne f v (by omega))]
      omega
theorem ud_up {us : Nat → Nat} {d s v : Nat} (hs : s < 10) : ud (up us (10 * d + s) v) d + us (10 * d + s) = ud us d + v := by
  have := cs_up (f := fun s => us (10 * d + s)) (v := v) 10 hs
  have e : cs (up (fun s => us (10 * d + s)) s v) 10 = ud (up us (10 * d + s) v) d := by
    unfold ud
    refine cs_congr 10 (fun i hi => ?_)
    simp only [up]
    by_cases h : i = s
    · simp [h]
    · rw [if_neg h, if_neg (by omega)]
  rw [e] at this
  exact this
theorem ud_ne {us : Nat → Nat} {d s v e : Nat} (hs : s < 10) (hne : e ≠ d) : ud (up us (10 * d + s) v) e = ud us e := by
  unfold ud
  refine cs_congr 10 (fun i hi => ?_)
  simp only [up]
  rw [if_neg (by omega)]
theorem ud_le {us : Nat → Nat} (h : ∀ i, us i < 2) (d : Nat) : ud us d ≤ 10 := by
  have := cs_le (f := fun s => us (10 * d + s)) (b := 1) (fun i => by have := h (10 * d + i); omega) 10
  simpa [ud] using this
theorem fr_take {us : Nat → Nat} {d s : Nat} (hd : d < 8) (hs : s < 10) (h0 : us (10 * d + s) = 0) (h2 : ∀ i, us i < 2) : up (frOf us) d (frOf us d - 1) = frOf (up us (10 * d + s) 1) := by
  funext e
  have h1 := ud_up (us := us) (d := d) (v := 1) hs
  by_cases he : e = d
  · subst he
    simp only [up_self, frOf, hd, if_true]
    omega
  · rw [up_ne _ _ he]
    simp only [frOf, ud_ne hs he]
theorem fr_give {us : Nat → Nat} {d s : Nat} (hd : d < 8) (hs : s < 10) (h0 : us (10 * d + s) = 1) (h2 : ∀ i, us i < 2) : up (frOf us) d (frOf us d + 1) = frOf (up us (10 * d + s) 0) := by
  funext e
  have h1 := ud_up (us := us) (d := d) (v := 0) hs
  have h3 := ud_le h2 d
  by_cases he : e = d
  · subst he
    simp only [up_self, frOf, hd, if_true]
    omega
  · rw [up_ne _ _ he]
    simp only [frOf, ud_ne hs he]
def plOf (Sh : Nat) (pl : Nat → Nat) : Nat → Nat := fun i => if i % 56 / Sh < 8 then tr (pl (56 * (i / 56) + 7 * (i % 56 / Sh) + i % 56 % Sh)) else 0
/-- a place's number, class and reference -/
theorem ix56 {Sh s h : Nat} (hS : Sh ≤ 7) (hs : s < 8) (hh : h < Sh) : s * Sh + h < 56 := by
  have h1 := mulb hs hh
  have : 8 * Sh ≤ 8 * 7 := Nat.mul_le_mul_left 8 hS
  omega
theorem pl_at {Sh : Nat} (pl : Nat → Nat) {o s h : Nat} (hS : Sh ≤ 7) (hs : s < 8) (hh : h < Sh) : plOf Sh pl (o * 56 + s * Sh + h) = tr (pl (56 * o + 7 * s + h)) := by
  have h0 := ix56 hS hs hh
  have h1 : (o * 56 + s * Sh + h) / 56 = o := by omega
  have h2 : (o * 56 + s * Sh + h) % 56 = s * Sh + h := by omega
  simp only [plOf, h1, h2, dm_div hh, dm_mod hh, hs, if_true]
theorem pl_up {Sh : Nat} (pl : Nat → Nat) {o s h v : Nat} (hS : Sh ≤ 7) (hs : s < 8) (hh : h < Sh) : up (plOf Sh pl) (o * 56 + s * Sh + h) (tr v) = plOf Sh (up pl (56 * o + 7 * s + h) v) := by
  have h0 := ix56 hS hs hh
  funext i
  by_cases hi : i = o * 56 + s * Sh + h
  · subst hi
    rw [up_self, pl_at _ hS hs hh, up_self]
  · rw [up_ne _ _ hi]
    simp only [plOf]
    split
    · rename_i h8
      have hm : i % 56 % Sh < Sh := Nat.mod_lt _ (by omega)
      have h9 : i % 56 = Sh * (i % 56 / Sh) + i % 56 % Sh := (Nat.div_add_mod _ _).symm
      rw [up_ne]
      intro e
      apply hi
      have e1 : i / 56 = o := by omega
      have e2 : i % 56 / Sh = s := by omega
      have e3 : i % 56 % Sh = h := by omega
      rw [e2, e3, Nat.mul_comm] at h9
      omega
    · rfl
theorem pl_lt {Sh : Nat} {pl : Nat → Nat} (h : ∀ i, pl i ≤ 80) (i : Nat) : plOf Sh pl i < 2 ^ 30 := by
  unfold plOf; split
  · unfold tr; split
    · decide
    · have := h (56 * (i / 56) + 7 * (i % 56 / Sh) + i % 56 % Sh); omega
  · decide
/-- the class's memory by the reference's numbers -/
abbrev CA (K Mo : Nat) (dr : Nat → Nat) (dl : Nat) (ou : Nat → Nat) (ol : Nat) (da eq al us by_ ln pl : Nat → Nat) (X : List va_E) : List va_E := CM K Mo dr dl ou ol da eq al (frOf us) (tkOf us) (byOf by_) ln (plOf (K + Mo) pl) X
/-- how many of a stripe's shards are lost -/
def nl (pl : Nat → Nat) (o s Sh : Nat) : Nat := cs (fun h => z1 (pl (56 * o + 7 * s + h))) Sh
theorem nl_cls {Sh : Nat} {pl : Nat → Nat} {o s : Nat} (hS : Sh ≤ 7) (hs : s < 8) : cs (fun h => z1 (plOf Sh pl (o * 56 + s * Sh + h))) Sh = nl pl o s Sh :=
  cs_congr Sh (fun h hh => by rw [pl_at pl hS hs hh, z1_tr])
