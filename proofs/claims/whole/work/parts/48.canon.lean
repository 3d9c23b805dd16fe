/-! What both sides do with what they have read, without what they scribble on -/
def eq4 (K : Nat) (a b : Nat → Nat) : Prop := ∀ i, i < 4 * K → a i = b i
theorem wk_congr {K : Nat} {a b : Nat → Nat} (h : eq4 K a b) {q t : Nat} (ht : t < 4) : ∀ n, n ≤ K → wk K a q t n = wk K b q t n
  | 0, _ => rfl
  | n + 1, hn => by
    show wk K a q t n ^^^ gm _ (a (n * 4 + t)) = wk K b q t n ^^^ gm _ (b (n * 4 + t))
    rw [wk_congr h ht n (by omega), h (n * 4 + t) (by omega)]
theorem sb_congr {K : Nat} {a b : Nat → Nat} (h : eq4 K a b) {q t : Nat} (ht : t < 4) : sb K a q t = sb K b q t := by
  unfold sb
  by_cases hq : q < K
  · rw [if_pos hq, if_pos hq, h _ (by omega)]
  · rw [if_neg hq, if_neg hq, wk_congr h ht K (Nat.le_refl _)]
theorem b4_congr {y : Nat → Nat} {p : Nat} {f g : Nat → Nat} : ∀ n, (∀ t, t < n → f t = g t) → b4 y p f n = b4 y p g n
  | 0, _ => rfl
  | n + 1, h => by
    show up _ _ _ = up _ _ _
    rw [b4_congr n (fun t ht => h t (by omega)), h n (by omega)]
theorem layU_congr {K : Nat} {a b : Nat → Nat} (h : eq4 K a b) (al : Nat → Nat) (o s Sh q : Nat) (x : U3) : layU K a al o s Sh q x = layU K b al o s Sh q x := by
  unfold layU
  rw [b4_congr 4 (fun t ht => sb_congr h ht)]
theorem rpS_congr {K : Nat} {a b : Nat → Nat} (h : eq4 K a b) (al : Nat → Nat) (o s Sh : Nat) (x : U3) : ∀ n, rpS K a al o s Sh x n = rpS K b al o s Sh x n
  | 0 => rfl
  | n + 1 => by
    unfold rpS
    rw [rpS_congr h al o s Sh x n, layU_congr h]
theorem pdH_congr {K : Nat} {a b : Nat → Nat} (h : eq4 K a b) (al : Nat → Nat) (o s Sh : Nat) (x : U3) : ∀ n, pdH K a al o s Sh x n = pdH K b al o s Sh x n
  | 0 => rfl
  | n + 1 => by
    unfold pdH
    rw [pdH_congr h al o s Sh x n, layU_congr h]
theorem ws1_congr {K : Nat} {a b : Nat → Nat} (h : eq4 K a b) (y pl : Nat → Nat) (o s q : Nat) : ws1 K a y pl o s q = ws1 K b y pl o s q := by
  unfold ws1
  congr 1
  exact anyB_congr 4 (fun t ht => by unfold wr; rw [sb_congr h ht])
/-- a stripe's data -/
def rdP (K Mo : Nat) (pl by_ : Nat → Nat) (o s : Nat) : Nat → Nat := rdD K (K + Mo) (lsB pl o s) (vb pl by_ o s)
theorem rdP_lt {K Mo : Nat} {pl by_ : Nat → Nat} {o s : Nat} (hK : 0 < K) (hK4 : K ≤ 4) (hM0 : 0 < Mo) (hM : Mo ≤ 3) (hn : nl pl o s (K + Mo) ≤ Mo) (i : Nat) : rdP K Mo pl by_ o s i < 256 :=
  rdD_lt hK hK4 hM0 hM (by rw [← nl_ls]; exact hn) i
theorem rdC_P {K Mo : Nat} {pl by_ : Nat → Nat} {o s : Nat} {eq da : Nat → Nat} (hK : 0 < K) (hK4 : K ≤ 4) (hM0 : 0 < Mo) (hM : Mo ≤ 3) (hn : nl pl o s (K + Mo) ≤ Mo) (hby : ∀ i, by_ i < 256) (he : ∀ i, eq i < 256) (hda : ∀ i, da i < 256) : eq4 K (rdC K (K + Mo) (lsB pl o s) (vb pl by_ o s) eq da).2 (rdP K Mo pl by_ o s) :=
  fun _ hi => rdC_eq hK hK4 hM0 hM (by rw [← nl_ls]; exact hn) (fun _ _ => hby _) he hda hi
/-- repair -/
def rqP (K Mo : Nat) (al : Nat → Nat) (o s : Nat) (x : Nat × U3) : Nat × U3 :=
  if Mo < nl x.2.2.2 o s (K + Mo) ∨ nl x.2.2.2 o s (K + Mo) = 0 then x else
    (x.1 + (rpS K (rdP K Mo x.2.2.2 x.2.2.1 o s) al o s (K + Mo) x.2 (K + Mo)).1, (rpS K (rdP K Mo x.2.2.2 x.2.2.1 o s) al o s (K + Mo) x.2 (K + Mo)).2)
def rtP (K Mo : Nat) (al : Nat → Nat) (o : Nat) (x : Nat × U3) : Nat → Nat × U3
  | 0 => x
  | s + 1 => rqP K Mo al o s (rtP K Mo al o x s)
def roP (K Mo : Nat) (al ln : Nat → Nat) (x : Nat × U3) : Nat → Nat × U3
  | 0 => x
  | o + 1 => rtP K Mo al o (roP K Mo al ln x o) (ns K (ln o))
theorem rqP_eq {K Mo : Nat} {al : Nat → Nat} {o s : Nat} {x : Q4} (hK : 0 < K) (hK4 : K ≤ 4) (hM0 : 0 < Mo) (hM : Mo ≤ 3) (h : okQ x) : (rpq K Mo al o s x).2 = rqP K Mo al o s x.2 := by
  unfold rpq rqP
  by_cases hc : Mo < nl x.2.2.2.2 o s (K + Mo) ∨ nl x.2.2.2.2 o s (K + Mo) = 0
  · rw [if_pos hc, if_pos hc]
  · rw [if_neg hc, if_neg hc]
    have e := rdC_P (eq := x.1.1) (da := x.1.2) hK hK4 hM0 hM (by omega : nl x.2.2.2.2 o s (K + Mo) ≤ Mo) h.2.2.1 h.1.1 h.1.2
    show (_ + (rpS _ _ _ _ _ _ _ _).1, (rpS _ _ _ _ _ _ _ _).2) = _
    rw [rpS_congr e]
theorem rtP_eq {K Mo : Nat} {al : Nat → Nat} {o : Nat} {x : Q4} (hK : 0 < K) (hK4 : K ≤ 4) (hM0 : 0 < Mo) (hM : Mo ≤ 3) (h : okQ x) : ∀ n, (rpt K Mo al o x n).2 = rtP K Mo al o x.2 n
  | 0 => rfl
  | n + 1 => by
    show (rpq _ _ _ _ _ _).2 = rqP _ _ _ _ _ _
    rw [rqP_eq hK hK4 hM0 hM (rpt_ok h n).1, rtP_eq hK hK4 hM0 hM h n]
theorem roP_eq {K Mo : Nat} {al ln : Nat → Nat} {x : Q4} (hK : 0 < K) (hK4 : K ≤ 4) (hM0 : 0 < Mo) (hM : Mo ≤ 3) (h : okQ x) (hln : ∀ o, ln o ≤ 32) : ∀ n, (rpo K Mo al ln x n).2 = roP K Mo al ln x.2 n
  | 0 => rfl
  | n + 1 => by
    show (rpt _ _ _ _ _ _).2 = rtP _ _ _ _ _ _
    rw [rtP_eq hK hK4 hM0 hM (rpo_ok hK (by omega) hln h n).1, roP_eq hK hK4 hM0 hM h hln n]
theorem rqP_ok {K Mo : Nat} {al : Nat → Nat} {o s : Nat} {x : Nat × U3} (hK : 0 < K) (hK4 : K ≤ 4) (hM0 : 0 < Mo) (hM : Mo ≤ 3) (h : okU x.2) : okU (rqP K Mo al o s x).2 ∧ (rqP K Mo al o s x).1 ≤ x.1 + (K + Mo) := by
  unfold rqP; split
  · exact ⟨h, by omega⟩
  · rename_i hc
    have hr := rpS_ok (K := K) (al := al) (o := o) (s := s) (Sh := K + Mo) h (rdP_lt (by_ := x.2.2.1) hK hK4 hM0 hM (by omega : nl x.2.2.2 o s (K + Mo) ≤ Mo)) (K + Mo)
    exact ⟨hr.1, by have := hr.2; show _ + _ ≤ _; omega⟩
theorem rtP_ok {K Mo : Nat} {al : Nat → Nat} {o : Nat} {x : Nat × U3} (hK : 0 < K) (hK4 : K ≤ 4) (hM0 : 0 < Mo) (hM : Mo ≤ 3) (h : okU x.2) : ∀ n, okU (rtP K Mo al o x n).2 ∧ (rtP K Mo al o x n).1 ≤ x.1 + n * (K + Mo)
  | 0 => ⟨h, by simp [rtP]⟩
  | n + 1 => by
    have ih := rtP_ok (al := al) (o := o) hK hK4 hM0 hM h n
    have := rqP_ok (al := al) (o := o) (s := n) hK hK4 hM0 hM ih.1
    refine ⟨this.1, ?_⟩
    rw [Nat.succ_mul]
    show (rqP _ _ _ _ _ _).1 ≤ _
    omega
theorem roP_ok {K Mo : Nat} {al ln : Nat → Nat} {x : Nat × U3} (hK : 0 < K) (hK4 : K ≤ 4) (hM0 : 0 < Mo) (hM : Mo ≤ 3) (hln : ∀ o, ln o ≤ 32) (h : okU x.2) : ∀ n, okU (roP K Mo al ln x n).2 ∧ (roP K Mo al ln x n).1 ≤ x.1 + n * 56
  | 0 => ⟨h, by simp [roP]⟩
  | n + 1 => by
    have ih := roP_ok (al := al) hK hK4 hM0 hM hln h n
    have := rtP_ok (al := al) (o := n) hK hK4 hM0 hM ih.1 (ns K (ln n))
    have h8 := ns_le hK (hln n)
    have h9 : ns K (ln n) * (K + Mo) ≤ 8 * 7 := Nat.mul_le_mul h8 (by omega)
    refine ⟨this.1, ?_⟩
    show (rtP _ _ _ _ _ _).1 ≤ _
    omega
/-- store -/
def td0 (K : Nat) (dr : Nat → Nat) (dl s : Nat) : Nat → Nat := td K dr dl s (fun _ => 0) (4 * K)
theorem td_td0 (K : Nat) (dr : Nat → Nat) (dl s : Nat) (da : Nat → Nat) : eq4 K (td K dr dl s da (4 * K)) (td0 K dr dl s) := by
  intro i hi
  unfold td0 td
  rw [if_pos hi, if_pos hi]
theorem td0_lt {K : Nat} {dr : Nat → Nat} {dl s : Nat} (hr : ∀ i, dr i < 256) (i : Nat) : td0 K dr dl s i < 256 := td_lt hr (fun _ => by decide) i
def pdP (K : Nat) (dr : Nat → Nat) (dl : Nat) (al : Nat → Nat) (o Sh : Nat) (x : U3) : Nat → Nat × U3
  | 0 => (1, x)
  | s + 1 => if (pdP K dr dl al o Sh x s).1 = 0 then pdP K dr dl al o Sh x s else pdH K (td0 K dr dl s) al o s Sh (pdP K dr dl al o Sh x s).2 Sh
theorem pdP_eq {K : Nat} {dr : Nat → Nat} {dl : Nat} {al : Nat → Nat} {o Sh : Nat} {da : Nat → Nat} {x : U3} : ∀ n, (pdS K dr dl al o Sh da x n).1 = (pdP K dr dl al o Sh x n).1 ∧ (pdS K dr dl al o Sh da x n).2.2 = (pdP K dr dl al o Sh x n).2
  | 0 => ⟨rfl, rfl⟩
  | n + 1 => by
    obtain ⟨h1, h2⟩ := pdP_eq (K := K) (dr := dr) (dl := dl) (al := al) (o := o) (Sh := Sh) (da := da) (x := x) n
    unfold pdS pdP
    rw [h1]
    by_cases hz : (pdP K dr dl al o Sh x n).1 = 0
    · rw [if_pos hz, if_pos hz]
      exact ⟨h1, h2⟩
    · rw [if_neg hz, if_neg hz]
      dsimp only
      rw [h2, pdH_congr (td_td0 K dr dl n _)]
      exact ⟨rfl, rfl⟩
theorem pdP_ok {K : Nat} {dr : Nat → Nat} {dl : Nat} {al : Nat → Nat} {o Sh : Nat} {x : U3} (hx : okU x) (hr : ∀ i, dr i < 256) : ∀ n, okU (pdP K dr dl al o Sh x n).2
  | 0 => hx
  | n + 1 => by
    have ih := pdP_ok (K := K) (dl := dl) (al := al) (o := o) (Sh := Sh) hx hr n
    unfold pdP; split
    · exact ih
    · exact pdH_ok ih (td0_lt hr) Sh
/-- get: what the output holds -/
def otP (K Mo : Nat) (pl by_ : Nat → Nat) (o q : Nat) : Nat := rdP K Mo pl by_ o (q / (4 * K)) (q % (4 * K))
theorem gtS_out {K Mo : Nat} {pl by_ : Nat → Nat} {o : Nat} {x : ED × (Nat → Nat)} (hx : b256 x.1) (hby : ∀ i, by_ i < 256) (hK : 0 < K) (hK4 : K ≤ 4) (hM0 : 0 < Mo) (hM : Mo ≤ 3) : ∀ n, (∀ s, s < n → nl pl o s (K + Mo) ≤ Mo) → ∀ q, q < n * (4 * K) → q < 32 → (gtS K Mo pl by_ o x n).2 q = otP K Mo pl by_ o q
  | 0, _, q, h, _ => by rw [Nat.zero_mul] at h; exact absurd h (Nat.not_lt_zero _)
  | n + 1, hn, q, h1, h2 => by
    have hb := gtS_b (K := K) (Mo := Mo) (pl := pl) (o := o) hx hby n
    show co K _ _ n (4 * K) q = _
    unfold co
    rw [Nat.succ_mul] at h1
    by_cases hq : n * (4 * K) ≤ q
    · rw [if_pos ⟨hq, h1, h2⟩, rdC_P hK hK4 hM0 hM (hn n (by omega)) hby hb.1 hb.2 _ (by omega)]
      obtain ⟨r, er⟩ : ∃ r, q = n * (4 * K) + r := ⟨q - n * (4 * K), by omega⟩
      have hr : r < 4 * K := by omega
      unfold otP
      rw [er, dm_div hr, dm_mod hr, Nat.add_sub_cancel_left]
    · rw [if_neg (fun z => hq z.1)]
      exact gtS_out hx hby hK hK4 hM0 hM n (fun s hs => hn s (by omega)) q (by omega) h2
theorem ns_cover {K n : Nat} (hK : 0 < K) : n ≤ ns K n * (4 * K) := by
  unfold ns
  have h := Nat.div_add_mod (n + 4 * K - 1) (4 * K)
  have h2 := Nat.mod_lt (n + 4 * K - 1) (show 0 < 4 * K by omega)
  rw [Nat.mul_comm] at h
  omega
/-- check -/
def ck1 (K Mo : Nat) (pl by_ : Nat → Nat) (o s : Nat) : Nat := if Mo < nl pl o s (K + Mo) then 0 else b2n (anyB (ws1 K (rdP K Mo pl by_ o s) by_ pl o s) (K + Mo))
theorem ckS_eq {K Mo : Nat} {pl by_ : Nat → Nat} {o : Nat} {x : ED × Nat} (hx : b256 x.1) (hby : ∀ i, by_ i < 256) (hK : 0 < K) (hK4 : K ≤ 4) (hM0 : 0 < Mo) (hM : Mo ≤ 3) : ∀ n, (ckS K Mo pl by_ o x n).2 = x.2 + cs (ck1 K Mo pl by_ o) n
  | 0 => rfl
  | n + 1 => by
    have hb := ckS_b (K := K) (Mo := Mo) (pl := pl) (o := o) hx hby n
    have ih := ckS_eq (pl := pl) (o := o) hx hby hK hK4 hM0 hM n
    show _ = x.2 + (cs _ n + ck1 K Mo pl by_ o n)
    unfold ckS
    by_cases hc : Mo < nl pl o n (K + Mo)
    · have e1 : ck1 K Mo pl by_ o n = 0 := by unfold ck1; rw [if_pos hc]
      rw [if_pos hc, ih, e1]; omega
    · have e1 : ck1 K Mo pl by_ o n = b2n (anyB (ws1 K (rdP K Mo pl by_ o n) by_ pl o n) (K + Mo)) := by unfold ck1; rw [if_neg hc]
      rw [if_neg hc, e1]
      have e := rdC_P (eq := (ckS K Mo pl by_ o x n).1.1) (da := (ckS K Mo pl by_ o x n).1.2) hK hK4 hM0 hM (by omega : nl pl o n (K + Mo) ≤ Mo) hby hb.1 hb.2
      show (ckS K Mo pl by_ o x n).2 + b2n (anyB _ _) = _
      rw [ih, anyB_congr (q := ws1 K (rdP K Mo pl by_ o n) by_ pl o n) (K + Mo) (fun i _ => ws1_congr e _ _ _ _ _)]
      omega
