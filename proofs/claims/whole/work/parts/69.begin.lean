/-! The law's beginning: both made, then the loop -/
section BEGIN
variable {l : Launch} {K Mo L : Nat} {xs : Nat → Int32}
theorem LI_0 : LI K Mo L xs (LM K Mo L xs z0 0 z0 0 z0 z0 al0 z0 z0 z0 z0 0 z0 z0 z0 z0 (fun _ => 0)) := by
  refine ⟨z0, 0, z0, 0, z0, z0, al0, z0, z0, z0, z0, 0, z0, z0, z0, z0, fun _ => 0, rfl, ⟨⟨fun _ => by show 0 < 2; decide, fun _ => by show 0 < 256; decide, fun _ => Nat.zero_le _⟩, fun p => ?_, fun _ _ => rfl, fun _ _ _ _ _ _ _ => rfl⟩, fun i => ?_, fun _ => by show 0 < 256; decide, Nat.zero_le _, fun _ => Nat.zero_le _, Nat.zero_le _, fun _ _ => rfl, fun _ => by show 0 < 256; decide, fun _ => by show 0 < 256; decide, fun _ => by show 0 < 256; decide, fun _ => by show 0 < 256; decide⟩
  · show cs (fun k => b2n (decide (0 = p + 1))) 336 = 0
    rw [cs_congr (g := fun _ => 0) 336 (fun i _ => b2f (by omega)), cs_0]
  · unfold al0; split <;> decide
theorem law_J (hl : l.stackTraces = false) (hL : L ≤ 2562) : ∃ Mf, J l (i_law L xs) 0 [(0, .ref 1000)] [] [] 0 0 (.inl (some (.int (nI 1)), Mf)) := by
  obtain ⟨K, hx⟩ : ∃ K, nr (cl L xs 0) 4 = K := ⟨_, rfl⟩
  obtain ⟨Mo, hy⟩ : ∃ Mo, nr (cl L xs 1) 3 = Mo := ⟨_, rfl⟩
  have hKb := nr_b (x := cl L xs 0) (m := 4) (by decide) (by decide)
  have hMb := nr_b (x := cl L xs 1) (m := 3) (by decide) (by decide)
  rw [hx] at hKb
  rw [hy] at hMb
  obtain ⟨Mf, -, hJ⟩ := lw_loop (l := l) (K := K) (Mo := Mo) (L := L) (xs := xs) hl (by omega) (by omega) (by omega) (by omega) hL 512 2 28 2070 _ (by omega) (by omega) (by omega) (by omega) LI_0
  refine ⟨Mf, ?_⟩
  refine J.new d_L_law_0 nw_L_8 rfl rfl rfl (Nat.le_of_ble_eq_true rfl) (Nat.le_of_ble_eq_true rfl) ?_
  show J l (i_law L xs) 3 [(0, .ref 1000)] [.ref 0] [v0] 1 7 _
  refine J.dup d_L_law_3 rfl ?_
  refine J.aload_n d_L_law_4 rfl rfl ?_
  refine J.iconst d_L_law_5 (v := nI 0) (by decide) ?_
  refine J.s2i (con_L_cell (i := 0) hL (by decide)) k_law_L_cell d_L_law_6 rfl ?_ (hf := ⟨Nat.le_of_ble_eq_true rfl, Nat.le_of_ble_eq_true rfl⟩)
  refine J.aload_n d_L_law_9 rfl rfl ?_
  refine J.iconst d_L_law_10 (v := nI 1) (by decide) ?_
  refine J.s2i (con_L_cell (i := 1) hL (by decide)) k_law_L_cell d_L_law_11 rfl ?_ (hf := ⟨Nat.le_of_ble_eq_true rfl, Nat.le_of_ble_eq_true rfl⟩)
  refine J.invokespecial (as := [.int (cl L xs 0), .int (cl L xs 1)]) (rest := [.ref 0]) (con_V_init (L := L) (xs := xs) hx hy) k_law_V_init d_L_law_14 rfl (Nat.le_of_ble_eq_true rfl) ⟨(show 1 + 0 + 0 + 14 ≤ 601024 by decide), (show 7 + 0 + 0 + 1136 ≤ 7293000 by decide)⟩ (Or.inr ⟨Nat.le_of_ble_eq_true rfl, rfl, rfl⟩) ?_
  refine J.astore_n d_L_law_17 rfl (Nat.le_of_ble_eq_true rfl) rfl ?_
  refine J.new d_L_law_18 nw_L_65 rfl rfl rfl (show 1 + 0 + 0 + 14 + 1 ≤ 601024 by decide) (show 7 + 0 + 0 + 1136 + 16 ≤ 7293000 by decide) ?_
  show J l (i_law L xs) 21 [(0, .ref 1000), (1, .ref 0)] [.ref 15] (CS L xs K Mo ++ [R0]) 16 1159 _
  refine J.dup d_L_law_21 rfl ?_
  refine J.aload_n d_L_law_22 rfl rfl ?_
  refine J.iconst d_L_law_23 (v := nI 0) (by decide) ?_
  refine J.s2i (con_L_cell (i := 0) hL (by decide)) k_law_L_cell d_L_law_24 rfl ?_ (hf := ⟨(show 16 + 0 ≤ 601024 by decide), (show 1159 + 0 ≤ 7293000 by decide)⟩)
  refine J.aload_n d_L_law_27 rfl rfl ?_
  refine J.iconst d_L_law_28 (v := nI 1) (by decide) ?_
  refine J.s2i (con_L_cell (i := 1) hL (by decide)) k_law_L_cell d_L_law_29 rfl ?_ (hf := ⟨(show 16 + 0 + 0 ≤ 601024 by decide), (show 1159 + 0 + 0 ≤ 7293000 by decide)⟩)
  refine J.invokespecial (as := [.int (cl L xs 0), .int (cl L xs 1)]) (rest := [.ref 15]) (con_R_init (L := L) (xs := xs) hx hy) k_law_R_init d_L_law_32 rfl (Nat.le_of_ble_eq_true rfl) ⟨(show 16 + 0 + 0 + 11 ≤ 601024 by decide), (show 1159 + 0 + 0 + 910 ≤ 7293000 by decide)⟩ (Or.inr ⟨Nat.le_of_ble_eq_true rfl, rfl, rfl⟩) ?_
  refine J.astore_n d_L_law_35 rfl (Nat.le_of_ble_eq_true rfl) rfl ?_
  refine J.iconst d_L_law_36 (v := nI 1) (by decide) ?_
  refine J.newarray (t := 2) d_L_law_37 rfl (Or.inr (Or.inr ⟨rfl, rfl⟩)) acL (by decide) rfl rfl rfl (show 16 + 0 + 0 + 11 + 1 ≤ 601024 by decide) (show 1159 + 0 + 0 + 910 + 1 ≤ 7293000 by decide) ?_
  show J l (i_law L xs) 39 [(0, .ref 1000), (1, .ref 0), (2, .ref 15)] [.ref 27] (LM K Mo L xs z0 0 z0 0 z0 z0 al0 z0 z0 z0 z0 0 z0 z0 z0 z0 (fun _ => 0)) 28 2070 _
  refine J.astore_n d_L_law_39 rfl (Nat.le_of_ble_eq_true rfl) rfl ?_
  refine J.iconst d_L_law_40 (v := nI 2) (by decide) ?_
  refine J.istore d_L_law_41 (Nat.le_of_ble_eq_true rfl) rfl ?_
  exact hJ
end BEGIN
