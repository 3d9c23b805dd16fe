/-! The law's beginning: both made, places renamed, the loop -/
def sg (i : Nat) : Nat := if i = 0 then 28 else if i < 29 then i - 1 else i
def tu (i : Nat) : Nat := if i < 28 then i + 1 else if i = 28 then 0 else i
theorem tu_sg (i : Nat) : tu (sg i) = i := by
  unfold tu sg
  split
  · subst i; rfl
  · split
    · rw [if_pos (by omega)]; omega
    · rw [if_neg (by omega), if_neg (by omega)]
theorem sg_tu (i : Nat) : sg (tu i) = i := by
  unfold sg tu
  split
  · rw [if_neg (by omega), if_pos (by omega)]; omega
  · split
    · subst i; rfl
    · rw [if_neg (by omega), if_neg (by omega)]
theorem sg_lt (i : Nat) : i < 29 ↔ sg i < 29 := by
  unfold sg
  split
  · omega
  · split <;> omega
theorem Ren_rot {e : va_E} {R M' : List va_E} (h : R.length = 28) (hM : M' = R.map (re sg) ++ [re sg e]) : Ren sg (e :: R) M' := by
  subst hM
  refine ⟨by simp [h], fun i => ?_⟩
  cases i with
  | zero =>
    show (R.map (re sg) ++ [re sg e])[28]? = some (re sg e)
    rw [List.getElem?_append_right (by simp [h])]
    simp [h]
  | succ i =>
    by_cases hi : i < 28
    · have e1 : sg (i + 1) = i := by unfold sg; rw [if_neg (by omega), if_pos (by omega)]; omega
      rw [e1, List.getElem?_append_left (by simp [h]; exact hi)]
      simp
    · have e1 : sg (i + 1) = i + 1 := by unfold sg; rw [if_neg (by omega), if_neg (by omega)]
      rw [e1, List.getElem?_eq_none (by simp [h]; omega), List.getElem?_eq_none (by simp [h]; omega)]
      rfl
theorem rv_rv {σ τ : Nat → Nat} (h : ∀ i, σ (τ i) = i) (v : Value) : rv σ (rv τ v) = v := by
  cases v <;> first | rfl | (show Value.ref (σ (τ _)) = Value.ref _; rw [h])
theorem re_re {σ τ : Nat → Nat} (h : ∀ i, σ (τ i) = i) (e : va_E) : re σ (re τ e) = e := by
  cases e with
  | inl x => rfl
  | inr o =>
    show Sum.inr (o.1, (o.2.map (rv τ)).map (rv σ)) = Sum.inr o
    rw [List.map_map, show (rv σ ∘ rv τ) = id from funext fun v => rv_rv h v, List.map_id]
theorem Ren_back {M' : List va_E} (h : M'.length = 29) : ∃ M, Ren sg M M' ∧ M[0]? = (M'[28]?).map (re tu) := by
  refine ⟨(List.range 29).map (fun i => re tu (M'.getD (sg i) (sc 0 (fun _ => 0)))), ⟨by simp [h], fun i => ?_⟩, ?_⟩
  · by_cases hi : i < 29
    · have h1 := (sg_lt i).mp hi
      rw [List.getElem?_map, List.getElem?_range hi]
      show M'[sg i]? = some (re sg (re tu (M'.getD (sg i) _)))
      rw [re_re sg_tu, List.getElem?_eq_getElem (by omega), List.getD_eq_getElem?_getD, List.getElem?_eq_getElem (by omega)]
      rfl
    · have h1 : ¬ sg i < 29 := fun z => hi ((sg_lt i).mpr z)
      rw [List.getElem?_eq_none (by omega), List.getElem?_eq_none (by simp; omega)]
      rfl
  · rw [List.getElem?_map, List.getElem?_range (by decide)]
    show some (re tu (M'.getD 28 _)) = _
    rw [List.getD_eq_getElem?_getD, List.getElem?_eq_getElem (by omega)]
    rfl
section BEGIN
variable {l : Launch} {K Mo L : Nat} {xs : Nat → Int32}
theorem LI_0 (hK : 0 < K) : LI K Mo L xs (LM K Mo L xs z0 0 z0 0 z0 z0 al0 z0 z0 z0 z0 0 z0 z0 z0 z0 (fun _ => 0)) := by
  refine ⟨z0, 0, z0, 0, z0, z0, al0, z0, z0, z0, z0, 0, z0, z0, z0, z0, fun _ => 0, rfl, ⟨⟨fun _ => by show 0 < 2; decide, fun _ => by show 0 < 256; decide, fun _ => Nat.zero_le _⟩, fun p => ?_, fun _ _ => rfl, fun _ _ _ _ _ _ _ => rfl⟩, fun i => ?_, fun _ => by show 0 < 256; decide, Nat.zero_le _, fun _ => Nat.zero_le _, Nat.zero_le _, fun _ _ => rfl, fun _ => by show 0 < 256; decide, fun _ => by show 0 < 256; decide, fun _ => by show 0 < 256; decide, fun _ => by show 0 < 256; decide⟩
  · show cs (fun k => b2n (decide (0 = p + 1))) 336 = 0
    rw [cs_congr (g := fun _ => 0) 336 (fun i _ => b2f (by omega)), cs_0]
  · unfold al0; split <;> decide
theorem law_J (hl : l.stackTraces = false) (hL : L ≤ 2562) : ∃ Mf, Mf.length = 29 ∧ Mf[0]? = some (sc L xs) ∧ J l i_law 0 [(0, .ref 0)] [] [sc L xs] 0 0 (.inl (some (.int (nI 1)), Mf)) := by
  obtain ⟨K, hx⟩ : ∃ K, nr (cl L xs 0) 4 = K := ⟨_, rfl⟩
  obtain ⟨Mo, hy⟩ : ∃ Mo, nr (cl L xs 1) 3 = Mo := ⟨_, rfl⟩
  have hKb := nr_b (x := cl L xs 0) (m := 4) (by decide) (by decide)
  have hMb := nr_b (x := cl L xs 1) (m := 3) (by decide) (by decide)
  rw [hx] at hKb
  rw [hy] at hMb
  obtain ⟨Mf2, hF, hJ⟩ := lw_loop (l := l) (K := K) (Mo := Mo) (L := L) (xs := xs) hl (by omega) (by omega) (by omega) (by omega) hL 512 2 28 2070 _ (by omega) (by omega) (by omega) (by omega) (LI_0 (by omega))
  obtain ⟨Mf, hR, h0⟩ := Ren_back hF.len
  rw [hF.at28] at h0
  refine ⟨Mf, hR.1.symm.trans hF.len, h0, ?_⟩
  refine J.new d_L_law_0 nw_L_8 rfl rfl rfl (by decide) (by decide) ?_
  show J l i_law 3 [(0, .ref 0)] [.ref 1] [sc L xs, v0] 1 7 _
  refine J.dup d_L_law_3 rfl ?_
  refine J.aload_n d_L_law_4 rfl rfl ?_
  refine J.iconst d_L_law_5 (v := nI 0) (by decide) ?_
  refine J.s2i (con_L_cell (i := 0) rfl hL (by decide)) k_law_L_cell d_L_law_6 rfl ?_
  refine J.aload_n d_L_law_9 rfl rfl ?_
  refine J.iconst d_L_law_10 (v := nI 1) (by decide) ?_
  refine J.s2i (con_L_cell (i := 1) rfl hL (by decide)) k_law_L_cell d_L_law_11 rfl ?_
  refine J.invokespecial (as := [.int (cl L xs 0), .int (cl L xs 1)]) (rest := [.ref 1]) (con_V_init hx hy) k_law_V_init d_L_law_14 rfl (Nat.le_of_ble_eq_true rfl) ⟨by decide, by decide⟩ (Or.inr ⟨Nat.le_of_ble_eq_true rfl, rfl, rfl⟩) ?_
  refine J.astore_n d_L_law_17 rfl (by decide) rfl ?_
  refine J.new d_L_law_18 nw_L_65 rfl rfl rfl (by decide) (by decide) ?_
  show J l i_law 21 [(0, .ref 0), (1, .ref 1)] [.ref 16] (CS L xs K Mo ++ [R0]) 16 1159 _
  refine J.dup d_L_law_21 rfl ?_
  refine J.aload_n d_L_law_22 rfl rfl ?_
  refine J.iconst d_L_law_23 (v := nI 0) (by decide) ?_
  refine J.s2i (con_L_cell (i := 0) rfl hL (by decide)) k_law_L_cell d_L_law_24 rfl ?_
  refine J.aload_n d_L_law_27 rfl rfl ?_
  refine J.iconst d_L_law_28 (v := nI 1) (by decide) ?_
  refine J.s2i (con_L_cell (i := 1) rfl hL (by decide)) k_law_L_cell d_L_law_29 rfl ?_
  refine J.invokespecial (as := [.int (cl L xs 0), .int (cl L xs 1)]) (rest := [.ref 16]) (con_R_init hx hy) k_law_R_init d_L_law_32 rfl (Nat.le_of_ble_eq_true rfl) ⟨by decide, by decide⟩ (Or.inr ⟨Nat.le_of_ble_eq_true rfl, rfl, rfl⟩) ?_
  refine J.astore_n d_L_law_35 rfl (by decide) rfl ?_
  refine J.iconst d_L_law_36 (v := nI 1) (by decide) ?_
  refine J.newarray (t := 2) d_L_law_37 rfl (Or.inr (Or.inr ⟨rfl, rfl⟩)) acL (by decide) rfl rfl rfl (by decide) (by decide) ?_
  show J l i_law 39 [(0, .ref 0), (1, .ref 1), (2, .ref 16)] [.ref 28] (RS L xs K Mo al0 (fun j => pI (z0 j)) (fc4 K Mo) ++ [lc (fun _ => 0)]) 28 2070 _
  refine J.astore_n d_L_law_39 rfl (by decide) rfl ?_
  refine J.iconst d_L_law_40 (v := nI 2) (by decide) ?_
  refine J.istore d_L_law_41 (by decide) rfl ?_
  exact J.ren (σ := sg) (τ := tu) (v := some (.int (nI 1))) tu_sg sg_tu sg_lt (Ren_rot rfl rfl) hR hJ
end BEGIN
