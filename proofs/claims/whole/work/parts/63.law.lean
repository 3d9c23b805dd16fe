/-! The law's memory, its invariant, its small rules -/
/-- the reference's cells, behind the class's -/
def LT (K Mo co : Nat) (dr : Nat → Nat) (sz : Nat) (al us by_ ln pl : Nat → Nat) (os : Nat) (ou rd sp rw : Nat → Nat) (Y : List va_E) : List va_E :=
  .inr (4, [.int (nI K), .int (nI Mo), .int (nI co), .ref 16, .int (nI sz), .ref 17, .ref 18, .ref 19, .ref 20, .ref 21, .ref 22, .int (nI os), .ref 23, .ref 24, .ref 25, .ref 26]) ::
  aI 32 dr :: aZ 8 al :: aZ 80 us :: aI 320 by_ :: aI 6 ln :: aP 336 pl :: aI 28 (fc4 K Mo) :: aI 32 ou :: aI 32 rd :: aI 16 sp :: aI 20 rw :: Y
def PF (c : List va_E) : Nat → va_E := fun i => c.getD i (.inl (0, 0, .inl (fun _ => 0)))
theorem LM_R {K Mo K' Mo' co dl sz ol os : Nat} {dr ou da eq al us by_ ln pl dr' al' us' by' ln' pl' ou' rd sp rw : Nat → Nat} {Y : List va_E} : CA K Mo dr dl ou ol da eq al us by_ ln pl (LT K' Mo' co dr' sz al' us' by' ln' pl' os ou' rd sp rw Y) = RM (PF (CA K Mo dr dl ou ol da eq al us by_ ln pl [])) K' Mo' co dr' sz al' us' by' ln' pl' os ou' rd sp rw Y := rfl
/-- the law's memory: class, reference, long[1] -/
def LM (K Mo L : Nat) (xs : Nat → Int32) (dr : Nat → Nat) (dl : Nat) (ou : Nat → Nat) (ol : Nat) (da eq al us by_ ln pl : Nat → Nat) (co : Nat) (ou2 rd sp rw : Nat → Nat) (f : Nat → Int64) : List va_E :=
  CA K Mo dr dl ou ol da eq al us by_ ln pl (LT K Mo co dr dl al us by_ ln pl ol ou2 rd sp rw [lc f])
def LI (K Mo L : Nat) (xs : Nat → Int32) (M : List va_E) : Prop := ∃ (dr : Nat → Nat) (dl : Nat) (ou : Nat → Nat) (ol : Nat) (da eq al us by_ ln pl : Nat → Nat) (co : Nat) (ou2 rd sp rw : Nat → Nat) (f : Nat → Int64),
  M = LM K Mo L xs dr dl ou ol da eq al us by_ ln pl co ou2 rd sp rw f ∧ IV K Mo ln (us, by_, pl) ∧ (∀ i, al i < 2) ∧ (∀ i, dr i < 256) ∧ dl ≤ 32 ∧ (∀ o, ln o ≤ 32) ∧ ol ≤ 32 ∧ (∀ i, i < ol → ou i = ou2 i) ∧ (∀ i, da i < 256) ∧ (∀ i, eq i < 256) ∧ b256 (rw, sp)
theorem LI.len {K Mo L : Nat} {xs : Nat → Int32} {M : List va_E} (h : LI K Mo L xs M) : M.length = 28 := by
  obtain ⟨_, _, _, _, _, _, _, _, _, _, _, _, _, _, _, _, _, rfl, -⟩ := h
  rfl
theorem LI.at0 {K Mo L : Nat} {xs : Nat → Int32} {M : List va_E} (h : LI K Mo L xs M) : ∃ fs, M[0]? = some (.inr (0, fs)) := by
  obtain ⟨_, _, _, _, _, _, _, _, _, _, _, _, _, _, _, _, _, rfl, -⟩ := h
  exact ⟨_, rfl⟩
theorem LI.at15 {K Mo L : Nat} {xs : Nat → Int32} {M : List va_E} (h : LI K Mo L xs M) : ∃ fs, M[15]? = some (.inr (4, fs)) := by
  obtain ⟨_, _, _, _, _, _, _, _, _, _, _, _, _, _, _, _, _, rfl, -⟩ := h
  exact ⟨_, rfl⟩
theorem LI.at27 {K Mo L : Nat} {xs : Nat → Int32} {M : List va_E} (h : LI K Mo L xs M) : ∃ f, M[27]? = some (lc f) := by
  obtain ⟨_, _, _, _, _, _, _, _, _, _, _, _, _, _, _, _, f, rfl, -⟩ := h
  exact ⟨f, rfl⟩
/-- a call of the class by a helper, then of the reference: the same end -/
def Sp (l : Launch) (I I' : MI) (as : List Value) (K Mo L : Nat) (xs : Nat → Int32) (M : List va_E) : Prop := ∃ (M1 M2 : List va_E) (r a : Int32) (f : Nat → Int64) (fs fs2 : List Value),
  Con l I (.ref 0 :: (as ++ [.ref 27])) M (.inl (some (.int r), M1)) ∧ M1[15]? = some (.inr (4, fs)) ∧ M1.length = 28 ∧ Con l I' (.ref 15 :: as) M1 (.inl (some (.int a), M2)) ∧ M2[15]? = some (.inr (4, fs2)) ∧ Con l i_R_thrown [.ref 15] M2 (.inl (some (.int r), M2)) ∧ M2[27]? = some (lc f) ∧ (r = 0 → f 0 = a.toInt64) ∧ LI K Mo L xs M2
/-- a call of the class, then of the reference: the same answer -/
def Sq (l : Launch) (I I' : MI) (as : List Value) (K Mo L : Nat) (xs : Nat → Int32) (M : List va_E) : Prop := ∃ (M1 M2 : List va_E) (z : Int32) (fs : List Value),
  Con l I (.ref 0 :: as) M (.inl (some (.int z), M1)) ∧ M1[15]? = some (.inr (4, fs)) ∧ M1.length = 28 ∧ Con l I' (.ref 15 :: as) M1 (.inl (some (.int z), M2)) ∧ LI K Mo L xs M2
/-- .. and no answer -/
def Sr (l : Launch) (I I' : MI) (as : List Value) (K Mo L : Nat) (xs : Nat → Int32) (M : List va_E) : Prop := ∃ (M1 M2 : List va_E) (fs : List Value),
  Con l I (.ref 0 :: as) M (.inl (none, M1)) ∧ M1[15]? = some (.inr (4, fs)) ∧ M1.length = 28 ∧ Con l I' (.ref 15 :: as) M1 (.inl (none, M2)) ∧ LI K Mo L xs M2
section LAW1
variable {l : Launch} {I : MI} {pc : Nat} {lv lv' : List (Nat × Value)} {st : List Value} {M : List va_E} {k n : Nat} {out : Out}
theorem J.lvsub (hs : ∀ q ∈ lv', q ∈ lv) (kk : J l I pc lv' st M k n out) : J l I pc lv st M k n out := fun D cA ad p e s m args below meth c A locs H ls h =>
  kk D cA ad p e s m args below meth c A locs H ls (h.lv' ⟨h.hl.1, h.hl.2.1, fun q hq => by
    obtain ⟨q0, hq0, rfl⟩ := List.mem_map.mp hq
    exact h.hl.2.2 _ (List.mem_map.mpr ⟨q0, hs q0 hq0, rfl⟩)⟩)
theorem J.lvtake (m : Nat) (hm : lv.take m = lv') (kk : J l I pc lv' st M k n out) : J l I pc lv st M k n out := J.lvsub (fun q hq => by rw [← hm] at hq; exact List.mem_of_mem_take hq) kk
theorem J.ialoadS {L i : Nat} {xs : Nat → Int32} {r : List Value} (hd : decode I.cc pc = .ok (.iaload, 1)) (hI : I.ex = some (L, xs)) (hl : L < 2 ^ 31) (hi : i < L) (kk : J l I (pc + 1) lv (.int (xs i) :: r) M k n out) : J l I pc lv (.int (nI i) :: .ref 1000 :: r) M k n out := by
  intro D cA ad p e s m args below meth c A locs H ls h
  have hX := h.hX
  rw [hI] at hX
  refine va_sld h.hx h.hb hX.1 hX.2.1 hX.2.2 h.hS (vp_in_nI hi hl) hd ?_
  rw [nI_clamp (Nat.lt_trans hi hl)]
  exact kk D cA ad p e s m args below meth c A locs H ls h
theorem J.arraylengthS {L : Nat} {xs : Nat → Int32} {r : List Value} (hd : decode I.cc pc = .ok (.arraylength, 1)) (hI : I.ex = some (L, xs)) (kk : J l I (pc + 1) lv (.int (nI L) :: r) M k n out) : J l I pc lv (.ref 1000 :: r) M k n out := by
  intro D cA ad p e s m args below meth c A locs H ls h
  have hX := h.hX
  rw [hI] at hX
  exact va_slen h.hx h.hb hX.1 hX.2.1 hX.2.2 h.hS hd (kk D cA ad p e s m args below meth c A locs H ls h)
theorem J.table {dflt lo hi : Int} {offs : Array Int} {len : Nat} {x : Int32} {off : Int} {tgt : Nat} {r : List Value} (hd : decode I.cc pc = .ok (.tableswitch dflt lo hi offs, len)) (h1 : ¬ x.toInt < lo) (h2 : ¬ hi < x.toInt) (ho : offs[(x.toInt - lo).toNat]? = some off) (ht : (pc : Int) + off = (tgt : Int))
    (kk : J l I tgt lv r M k n out) : J l I pc lv (.int x :: r) M k n out :=
  fun D cA ad p e s m args below meth c A locs H ls h => lv_tableIn h.hx h.hb hd h1 h2 ho ht (kk D cA ad p e s m args below meth c A locs H ls h)
def cl (L : Nat) (xs : Nat → Int32) (i : Nat) : Int32 := if i < L then xs i else 0
theorem con_L_cell {L i : Nat} {xs : Nat → Int32} (hL : L ≤ 2562) (hi : i < 2) : Con l (i_cell L xs) [.ref 1000, .int (nI i)] M (.inl (some (.int (cl L xs i)), M)) := by
  refine Con.of ?_ (hy := (show plainName NL = true by decide))
  refine J.iload_n d_L_cell_0 rfl rfl ?_
  refine J.aload_n d_L_cell_1 rfl rfl ?_
  refine J.arraylengthS d_L_cell_2 rfl ?_
  refine J.icmp_geN d_L_cell_3 (tgt := 12) (by decide) (by omega) (by omega) (fun h => ?_) (fun h => ?_)
  · unfold cl
    rw [if_neg (by omega)]
    refine J.iconst d_L_cell_12 (v := 0) (by decide) ?_
    exact J.ireturn d_L_cell_13 rfl (Nat.zero_le _) (Nat.zero_le _)
  · unfold cl
    rw [if_pos (by omega)]
    refine J.aload_n d_L_cell_6 rfl rfl ?_
    refine J.iload_n d_L_cell_7 rfl rfl ?_
    refine J.ialoadS d_L_cell_8 rfl (by omega) (by omega) ?_
    refine J.goto d_L_cell_9 (tgt := 13) (by decide) ?_
    exact J.ireturn d_L_cell_13 rfl (Nat.zero_le _) (Nat.zero_le _)
end LAW1
