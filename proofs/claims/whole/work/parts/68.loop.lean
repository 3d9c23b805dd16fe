/-! The law's loop -/
section LOOP
variable {l : Launch} {K Mo L p k n : Nat} {xs : Nat → Int32} {M : List va_E}
theorem and15 (x : Int32) : ∃ t, t < 16 ∧ x &&& nI 15 = nI t := by
  have h1 : (x &&& nI 15).toBitVec.toNat ≤ 15 := by
    rw [Int32.toBitVec_and, BitVec.toNat_and]
    exact Nat.and_le_right
  refine ⟨(x &&& nI 15).toBitVec.toNat, by omega, ?_⟩
  apply Int32.toInt_inj.mp
  rw [nI_toInt (by omega)]
  show (x &&& nI 15).toBitVec.toInt = _
  exact BitVec.toInt_eq_toNat_of_lt (by omega)
theorem lw_sw (hp : p < L) (hL : L ≤ 2562) {t tgt : Nat} {off : Int} (hx : xs p &&& nI 15 = nI t) (h1 : ¬ (nI t).toInt < 0) (h2 : ¬ 15 < (nI t).toInt) (ho : (#[77, 146, 157, 213, 269, 325, 381, 437, 493, 506, 562, 654, 734, 814, 839, 864] : Array Int)[((nI t).toInt - 0).toNat]? = some off) (hg : ((59 : Nat) : Int) + off = (tgt : Int)) {out : Out}
    (kk : J l (i_law L xs) tgt [(0, .ref 1000), (1, .ref 0), (2, .ref 15), (3, .ref 27), (4, .int (nI p))] [] M k n out) : J l (i_law L xs) 52 [(0, .ref 1000), (1, .ref 0), (2, .ref 15), (3, .ref 27), (4, .int (nI p))] [] M k n out := by
  refine J.aload_n d_L_law_52 rfl rfl ?_
  refine J.iload d_L_law_53 rfl ?_
  refine J.ialoadS d_L_law_55 rfl (by omega) hp ?_
  refine J.bipush d_L_law_56 (v := nI 15) (by decide) ?_
  refine J.iand d_L_law_58 ?_
  rw [hx]
  exact J.table d_L_law_59 h1 h2 ho hg kk
theorem lw_case (hl : l.stackTraces = false) (hK : 0 < K) (hK4 : K ≤ 4) (hM0 : 0 < Mo) (hM : Mo ≤ 3) (hLI : LI K Mo L xs M) (hL : L ≤ 2562) (hp : p + 5 ≤ L) (hk : k + 2 ≤ 601024) (hn : n + 12 ≤ 7293000)
    (IH : ∀ M2, LI K Mo L xs M2 → ∃ Mf, LI K Mo L xs Mf ∧ J l (i_law L xs) 991 [(0, .ref 1000), (1, .ref 0), (2, .ref 15), (3, .ref 27), (4, .int (nI p))] [] M2 (k + 2) (n + 12) (.inl (some (.int (nI 1)), Mf))) : ∃ Mf, LI K Mo L xs Mf ∧ J l (i_law L xs) 52 [(0, .ref 1000), (1, .ref 0), (2, .ref 15), (3, .ref 27), (4, .int (nI p))] [] M k n (.inl (some (.int (nI 1)), Mf)) := by
  obtain ⟨t, ht, hx⟩ := and15 (xs p)
  obtain ⟨dr, dl, ou, ol, da, eq, al, us, by_, ln, pl, co, ou2, rd, sp, rw1, f, rfl, hJ⟩ := id hLI
  have hJ : LJ K Mo dr dl ou ol da eq al us by_ ln pl ou2 sp rw1 := hJ
  rcases (show t = 0 ∨ t = 1 ∨ t = 2 ∨ t = 3 ∨ t = 4 ∨ t = 5 ∨ t = 6 ∨ t = 7 ∨ t = 8 ∨ t = 9 ∨ t = 10 ∨ t = 11 ∨ t = 12 ∨ t = 13 ∨ t = 14 ∨ t = 15 by omega) with rfl | rfl | rfl | rfl | rfl | rfl | rfl | rfl | rfl | rfl | rfl | rfl | rfl | rfl | rfl | rfl
  · obtain ⟨Mf, hF, hJ2⟩ := lw_put hLI hL hp (sq_put hJ _ _) hk hn IH
    exact ⟨Mf, hF, lw_sw (by omega) hL (tgt := 136) (off := 77) hx (by decide) (by decide) (by decide) (by decide) hJ2⟩
  · obtain ⟨Mf, hF, hJ2⟩ := lw_scrap hLI hL hp (sr_scrap hJ) hk hn IH
    exact ⟨Mf, hF, lw_sw (by omega) hL (tgt := 205) (off := 146) hx (by decide) (by decide) (by decide) (by decide) hJ2⟩
  · obtain ⟨Mf, hF, hJ2⟩ := lw_store hLI hL hp (sp_store hl hK hK4 hM hJ _) hk hn IH
    exact ⟨Mf, hF, lw_sw (by omega) hL (tgt := 216) (off := 157) hx (by decide) (by decide) (by decide) (by decide) hJ2⟩
  · obtain ⟨Mf, hF, hJ2⟩ := lw_drop hLI hL hp (sp_drop hl hK hK4 hM hJ _) hk hn IH
    exact ⟨Mf, hF, lw_sw (by omega) hL (tgt := 272) (off := 213) hx (by decide) (by decide) (by decide) (by decide) hJ2⟩
  · obtain ⟨Mf, hF, hJ2⟩ := lw_get hLI hL hp (sp_get hl hK hK4 hM0 hM hJ _) hk hn IH
    exact ⟨Mf, hF, lw_sw (by omega) hL (tgt := 328) (off := 269) hx (by decide) (by decide) (by decide) (by decide) hJ2⟩
  · obtain ⟨Mf, hF, hJ2⟩ := lw_at hLI hL hp (sp_at hl hJ _) hk hn IH
    exact ⟨Mf, hF, lw_sw (by omega) hL (tgt := 384) (off := 325) hx (by decide) (by decide) (by decide) (by decide) hJ2⟩
  · obtain ⟨Mf, hF, hJ2⟩ := lw_fail hLI hL hp (sp_fail hl hK hK4 hM hJ _) hk hn IH
    exact ⟨Mf, hF, lw_sw (by omega) hL (tgt := 440) (off := 381) hx (by decide) (by decide) (by decide) (by decide) hJ2⟩
  · obtain ⟨Mf, hF, hJ2⟩ := lw_renew hLI hL hp (sp_renew hl hJ _) hk hn IH
    exact ⟨Mf, hF, lw_sw (by omega) hL (tgt := 496) (off := 437) hx (by decide) (by decide) (by decide) (by decide) hJ2⟩
  · obtain ⟨Mf, hF, hJ2⟩ := lw_repair hLI hL hp (sq_repair hK hK4 hM0 hM hJ) hk hn IH
    exact ⟨Mf, hF, lw_sw (by omega) hL (tgt := 552) (off := 493) hx (by decide) (by decide) (by decide) (by decide) hJ2⟩
  · obtain ⟨Mf, hF, hJ2⟩ := lw_check hLI hL hp (sp_check hl hK hK4 hM0 hM hJ _) hk hn IH
    exact ⟨Mf, hF, lw_sw (by omega) hL (tgt := 565) (off := 506) hx (by decide) (by decide) (by decide) (by decide) hJ2⟩
  · obtain ⟨Mf, hF, hJ2⟩ := lw_harm hLI hL hp (sp_harm hl hJ _ _ _ _) hk hn IH
    exact ⟨Mf, hF, lw_sw (by omega) hL (tgt := 621) (off := 562) hx (by decide) (by decide) (by decide) (by decide) hJ2⟩
  · obtain ⟨Mf, hF, hJ2⟩ := lw_stored hLI hL hp (sp_stored hl hJ _ _ _) hk hn IH
    exact ⟨Mf, hF, lw_sw (by omega) hL (tgt := 713) (off := 654) hx (by decide) (by decide) (by decide) (by decide) hJ2⟩
  · obtain ⟨Mf, hF, hJ2⟩ := lw_where hLI hL hp (sp_where hl hK hK4 hM hJ _ _ _) hk hn IH
    exact ⟨Mf, hF, lw_sw (by omega) hL (tgt := 793) (off := 734) hx (by decide) (by decide) (by decide) (by decide) hJ2⟩
  · obtain ⟨Mf, hF, hJ2⟩ := lw_length hLI hL hp (sq_length hJ _) hk hn IH
    exact ⟨Mf, hF, lw_sw (by omega) hL (tgt := 873) (off := 814) hx (by decide) (by decide) (by decide) (by decide) hJ2⟩
  · obtain ⟨Mf, hF, hJ2⟩ := lw_room hLI hL hp (sq_room hJ _) hk hn IH
    exact ⟨Mf, hF, lw_sw (by omega) hL (tgt := 898) (off := 839) hx (by decide) (by decide) (by decide) (by decide) hJ2⟩
  · obtain ⟨Mf, hF, hJ2⟩ := lw_product hLI hL hp (sp_product hl hJ _ _) hk hn IH
    exact ⟨Mf, hF, lw_sw (by omega) hL (tgt := 923) (off := 864) hx (by decide) (by decide) (by decide) (by decide) hJ2⟩
theorem lw_exit (hLI : LI K Mo L xs M) (hL : L ≤ 2562) (hpb : p ≤ 3000) (hp : L < p + 5) (hk : k ≤ 601024) (hn : n ≤ 7293000) : J l (i_law L xs) 43 [(0, .ref 1000), (1, .ref 0), (2, .ref 15), (3, .ref 27), (4, .int (nI p))] [] M k n (.inl (some (.int (nI 1)), M)) := by
  refine J.iload d_L_law_43 rfl ?_
  refine J.aload_n d_L_law_45 rfl rfl ?_
  refine J.arraylengthS d_L_law_46 rfl ?_
  refine J.iconst d_L_law_47 (v := nI 5) (by decide) ?_
  refine J.isub d_L_law_48 ?_
  refine J.icmp_gt d_L_law_49 (tgt := 997) (by decide) (fun _ => ?_) (fun h => ?_)
  · refine J.iconst d_L_law_997 (v := nI 1) (by decide) ?_
    exact J.zreturn d_L_law_998 rfl rfl hk hn
  · exfalso
    apply h
    rw [Int32.lt_iff_toInt_lt, pk_sub_toInt (by omega) (by decide), nI_toInt (by omega)]
    omega
theorem lw_loop (hl : l.stackTraces = false) (hK : 0 < K) (hK4 : K ≤ 4) (hM0 : 0 < Mo) (hM : Mo ≤ 3) (hL : L ≤ 2562) : ∀ (j p k n : Nat) (M : List va_E), L < p + 5 * (j + 1) → p ≤ 2600 → k + 2 * j ≤ 601024 → n + 12 * j ≤ 7293000 → LI K Mo L xs M → ∃ Mf, LI K Mo L xs Mf ∧ J l (i_law L xs) 43 [(0, .ref 1000), (1, .ref 0), (2, .ref 15), (3, .ref 27), (4, .int (nI p))] [] M k n (.inl (some (.int (nI 1)), Mf))
  | 0, p, k, n, M, h1, h2, h3, h4, hLI => ⟨M, hLI, lw_exit hLI hL (by omega) (by omega) (by omega) (by omega)⟩
  | j + 1, p, k, n, M, h1, h2, h3, h4, hLI => by
    by_cases hp : L < p + 5
    · exact ⟨M, hLI, lw_exit hLI hL (by omega) hp (by omega) (by omega)⟩
    · obtain ⟨Mf, hF, hJ⟩ := lw_case (k := k) (n := n) (p := p) hl hK hK4 hM0 hM hLI hL (by omega) (by omega) (by omega) (fun M2 hLI2 => by
        obtain ⟨Mf, hF, hJ⟩ := lw_loop hl hK hK4 hM0 hM hL j (p + 5) (k + 2) (n + 12) M2 (by omega) (by omega) (by omega) (by omega) hLI2
        refine ⟨Mf, hF, ?_⟩
        refine J.iinc d_L_law_991 rfl (nI_add p 5) (Nat.le_of_ble_eq_true rfl) rfl ?_
        exact J.goto d_L_law_994 (tgt := 43) (by decide) hJ)
      refine ⟨Mf, hF, ?_⟩
      refine J.iload d_L_law_43 rfl ?_
      refine J.aload_n d_L_law_45 rfl rfl ?_
      refine J.arraylengthS d_L_law_46 rfl ?_
      refine J.iconst d_L_law_47 (v := nI 5) (by decide) ?_
      refine J.isub d_L_law_48 ?_
      refine J.icmp_gt d_L_law_49 (tgt := 997) (by decide) (fun h => ?_) (fun _ => hJ)
      exfalso
      rw [Int32.lt_iff_toInt_lt, pk_sub_toInt (by omega) (by decide), nI_toInt (by omega)] at h
      omega
end LOOP
