/-! product, store, get, check of the class -/
section PUB2
variable {l : Launch} {K Mo dl ol : Nat} {dr ou da eq al us by_ ln pl : Nat → Nat} {X : List va_E}
theorem con_V_prodT {a b : Nat} (ha : a < 256) (hb : b < 256) : Con l i_V_product [.ref 0, .int (nI a), .int (nI b)] (CA K Mo dr dl ou ol da eq al us by_ ln pl X) (.inl (some (.int (nI (gm a b))), (CA K Mo dr dl ou ol da eq al us by_ ln pl X))) := by
  refine Con.of ?_
  refine J.iload_n d_V_product_0 rfl rfl ?_
  refine J.s1i (con_V_isByte1 ha _) k_V_product_V_isByte d_V_product_1 rfl ?_
  refine J.if_eqN d_V_product_4 (tgt := 19) (by decide) (by omega) (fun h => ?_) (fun h => ?_)
  · exact absurd h (by decide)
  refine J.iload_n d_V_product_7 rfl rfl ?_
  refine J.s1i (con_V_isByte1 hb _) k_V_product_V_isByte d_V_product_8 rfl ?_
  refine J.if_neN d_V_product_11 (tgt := 27) (by decide) (by omega) (fun h => ?_) (fun h => ?_)
  · refine J.iload_n d_V_product_27 rfl rfl ?_
    refine J.iconst d_V_product_28 (v := pI 0) (by decide) ?_
    refine J.icmp_eqK d_V_product_29 (tgt := 38) (by decide) (by omega) ?_
    refine J.iload_n d_V_product_32 rfl rfl ?_
    refine J.iload_n d_V_product_33 rfl rfl ?_
    refine J.s2i (con_V_times ha hb _) k_V_product_V_times d_V_product_34 rfl ?_
    exact J.ireturn d_V_product_37 rfl (by decide) (by decide)
  · exact absurd h (by decide)
theorem m1_neg : pI 0 < 0 := by decide +kernel
theorem con_V_prodI {a : Nat} (ha : a < 256) (h0 : 0 < a) : Con l i_V_product [.ref 0, .int (nI a), .int (pI 0)] (CA K Mo dr dl ou ol da eq al us by_ ln pl X) (.inl (some (.int (nI (gi a))), (CA K Mo dr dl ou ol da eq al us by_ ln pl X))) := by
  refine Con.of ?_
  refine J.iload_n d_V_product_0 rfl rfl ?_
  refine J.s1i (con_V_isByte1 ha _) k_V_product_V_isByte d_V_product_1 rfl ?_
  refine J.if_eqN d_V_product_4 (tgt := 19) (by decide) (by omega) (fun h => ?_) (fun h => ?_)
  · exact absurd h (by decide)
  refine J.iload_n d_V_product_7 rfl rfl ?_
  refine J.s1i (con_V_isByte0 (Or.inl m1_neg) _) k_V_product_V_isByte d_V_product_8 rfl ?_
  refine J.if_neN d_V_product_11 (tgt := 27) (by decide) (by omega) (fun h => ?_) (fun h => ?_)
  · exact absurd rfl h
  refine J.iload_n d_V_product_14 rfl rfl ?_
  refine J.iconst d_V_product_15 (v := pI 0) (by decide) ?_
  refine J.icmp_eqP d_V_product_16 (tgt := 27) (by decide) (by decide) (by decide) (fun _ => ?_) (fun h => absurd rfl h)
  refine J.iload_n d_V_product_27 rfl rfl ?_
  refine J.iconst d_V_product_28 (v := pI 0) (by decide) ?_
  refine J.icmp_eqP d_V_product_29 (tgt := 38) (by decide) (by decide) (by decide) (fun _ => ?_) (fun h => absurd rfl h)
  refine J.iload_n d_V_product_38 rfl rfl ?_
  refine J.if_neN d_V_product_39 (tgt := 50) (by decide) (by omega) (fun h => ?_) (fun h => ?_)
  · refine J.iload_n d_V_product_50 rfl rfl ?_
    refine J.s1i (con_V_inverse ha _) k_V_product_V_inverse d_V_product_51 rfl ?_
    exact J.ireturn d_V_product_54 rfl (by decide) (by decide)
  · omega
theorem con_V_prodZ (hl : l.stackTraces = false) : Con l i_V_product [.ref 0, .int (nI 0), .int (pI 0)] (CA K Mo dr dl ou ol da eq al us by_ ln pl X) (.inr ("java/lang/ArithmeticException", (CA K Mo dr dl ou ol da eq al us by_ ln pl X))) := by
  refine Con.of ?_
  refine J.iload_n d_V_product_0 rfl rfl ?_
  refine J.s1i (con_V_isByte1 (by decide) _) k_V_product_V_isByte d_V_product_1 rfl ?_
  refine J.if_eqN d_V_product_4 (tgt := 19) (by decide) (by omega) (fun h => ?_) (fun h => ?_)
  · exact absurd h (by decide)
  refine J.iload_n d_V_product_7 rfl rfl ?_
  refine J.s1i (con_V_isByte0 (Or.inl m1_neg) _) k_V_product_V_isByte d_V_product_8 rfl ?_
  refine J.if_neN d_V_product_11 (tgt := 27) (by decide) (by omega) (fun h => ?_) (fun h => ?_)
  · exact absurd rfl h
  refine J.iload_n d_V_product_14 rfl rfl ?_
  refine J.iconst d_V_product_15 (v := pI 0) (by decide) ?_
  refine J.icmp_eqP d_V_product_16 (tgt := 27) (by decide) (by decide) (by decide) (fun _ => ?_) (fun h => absurd rfl h)
  refine J.iload_n d_V_product_27 rfl rfl ?_
  refine J.iconst d_V_product_28 (v := pI 0) (by decide) ?_
  refine J.icmp_eqP d_V_product_29 (tgt := 38) (by decide) (by decide) (by decide) (fun _ => ?_) (fun h => absurd rfl h)
  refine J.iload_n d_V_product_38 rfl rfl ?_
  refine J.if_neN d_V_product_39 (tgt := 50) (by decide) (by omega) (fun h => ?_) (fun h => ?_)
  · exact absurd rfl h
  · exact J.throwNew hl tw_ARE d_V_product_42 d_V_product_45 d_V_product_46 d_V_product_49 rfl (by decide) (by decide) ⟨by decide, by decide⟩ ⟨by decide, by decide⟩
/-- no byte, or no byte and not -1 -/
def noP (a b : Int32) : Prop := (a < 0 ∨ nI 256 ≤ a) ∨ ((∃ a', a' < 256 ∧ a = nI a') ∧ (b < 0 ∨ nI 256 ≤ b) ∧ b ≠ pI 0)
theorem con_V_prod0 (hl : l.stackTraces = false) {a b : Int32} (hx : noP a b) : Con l i_V_product [.ref 0, .int a, .int b] (CA K Mo dr dl ou ol da eq al us by_ ln pl X) (.inr ("java/lang/IllegalArgumentException", (CA K Mo dr dl ou ol da eq al us by_ ln pl X))) := by
  have thr : ∀ {lv}, J l i_V_product 19 lv [] (CA K Mo dr dl ou ol da eq al us by_ ln pl X) 0 0 (.inr ("java/lang/IllegalArgumentException", (CA K Mo dr dl ou ol da eq al us by_ ln pl X))) := J.throwNew hl tw_IAE d_V_product_19 d_V_product_22 d_V_product_23 d_V_product_26 rfl (by decide) (by decide) ⟨by decide, by decide⟩ ⟨by decide, by decide⟩
  rcases hx with hx | ⟨⟨a', ha, rfl⟩, hb, hne⟩
  · refine Con.of ?_
    refine J.iload_n d_V_product_0 rfl rfl ?_
    refine J.s1i (con_V_isByte0 hx _) k_V_product_V_isByte d_V_product_1 rfl ?_
    refine J.if_eqN d_V_product_4 (tgt := 19) (by decide) (by omega) (fun h => ?_) (fun h => ?_)
    · exact thr
    · exact absurd rfl h
  · refine Con.of ?_
    refine J.iload_n d_V_product_0 rfl rfl ?_
    refine J.s1i (con_V_isByte1 ha _) k_V_product_V_isByte d_V_product_1 rfl ?_
    refine J.if_eqN d_V_product_4 (tgt := 19) (by decide) (by omega) (fun h => ?_) (fun h => ?_)
    · exact absurd h (by decide)
    refine J.iload_n d_V_product_7 rfl rfl ?_
    refine J.s1i (con_V_isByte0 hb _) k_V_product_V_isByte d_V_product_8 rfl ?_
    refine J.if_neN d_V_product_11 (tgt := 27) (by decide) (by omega) (fun h => ?_) (fun h => ?_)
    · exact absurd rfl h
    refine J.iload_n d_V_product_14 rfl rfl ?_
    refine J.iconst d_V_product_15 (v := pI 0) (by decide) ?_
    refine J.icmp_eq d_V_product_16 (tgt := 27) (by decide) (fun h => absurd h hne) (fun _ => thr)
/-- nothing can be stored there -/
def noS (ln : Nat → Nat) (dl : Nat) (x : Int32) : Prop := (x < 0 ∨ nI 6 ≤ x) ∨ ∃ o, o < 6 ∧ x = nI o ∧ (0 < ln o ∨ dl = 0)
theorem con_V_store0 (hl : l.stackTraces = false) {x : Int32} (hln : ∀ o, ln o ≤ 32) (hdl : dl ≤ 32) (hx : noS ln dl x) : Con l i_V_store [.ref 0, .int x] (CA K Mo dr dl ou ol da eq al us by_ ln pl X) (.inr ("java/lang/IllegalArgumentException", (CA K Mo dr dl ou ol da eq al us by_ ln pl X))) := by
  have thr : ∀ {lv}, J l i_V_store 25 lv [] (CA K Mo dr dl ou ol da eq al us by_ ln pl X) 0 0 (.inr ("java/lang/IllegalArgumentException", (CA K Mo dr dl ou ol da eq al us by_ ln pl X))) := J.throwNew hl tw_IAE d_V_store_25 d_V_store_28 d_V_store_29 d_V_store_32 rfl (by decide) (by decide) ⟨by decide, by decide⟩ ⟨by decide, by decide⟩
  rcases hx with hx | ⟨o, ho, rfl, h0⟩
  · refine Con.of ?_
    refine J.iload_n d_V_store_0 rfl rfl ?_
    refine J.s1i (con_V_isObj0 hx _) k_V_store_V_isObjectNumber d_V_store_1 rfl ?_
    refine J.if_eqN d_V_store_4 (tgt := 25) (by decide) (by omega) (fun h => ?_) (fun h => ?_)
    · exact thr
    · exact absurd rfl h
  · have hh := con_G_holds (l := l) (K := K) (Mo := Mo) (dl := dl) (ol := ol) (dr := dr) (ou := ou) (da := da) (eq := eq) (al := al) (fr := frOf us) (tk := tkOf us) (by_ := byOf by_) (ln := ln) (pl := plOf (K + Mo) pl) (X := X) ho (by have := hln o; omega)
    refine Con.of ?_
    refine J.iload_n d_V_store_0 rfl rfl ?_
    refine J.s1i (con_V_isObj1 ho _) k_V_store_V_isObjectNumber d_V_store_1 rfl ?_
    refine J.if_eqN d_V_store_4 (tgt := 25) (by decide) (by omega) (fun h => ?_) (fun h => ?_)
    · exact absurd h (by decide)
    refine J.aload_n d_V_store_7 rfl rfl ?_
    refine J.getfield d_V_store_8 fl_V_32 rfl rfl ?_
    refine J.iload_n d_V_store_11 rfl rfl ?_
    refine J.v1i hh k_V_store_G_holds d_V_store_12 rfl rfl rfl ?_
    by_cases hz : 0 < ln o
    · rw [if_pos hz]
      refine J.if_neN d_V_store_15 (tgt := 25) (by decide) (by omega) (fun h => ?_) (fun h => ?_)
      · exact thr
      · exact absurd h (by decide)
    · rw [if_neg hz]
      refine J.if_neN d_V_store_15 (tgt := 25) (by decide) (by omega) (fun h => ?_) (fun h => ?_)
      · exact absurd rfl h
      refine J.aload_n d_V_store_18 rfl rfl ?_
      refine J.getfield d_V_store_19 fl_V_40 rfl rfl ?_
      refine J.if_neN d_V_store_22 (tgt := 33) (by decide) (by omega) (fun h2 => ?_) (fun h2 => ?_)
      · exact absurd (h0.resolve_left hz) h2
      · exact thr
/-- the draft laid for object o -/
def pd (K Mo : Nat) (dr : Nat → Nat) (dl : Nat) (al : Nat → Nat) (o : Nat) (da us by_ pl : Nat → Nat) : Nat × (Nat → Nat) × U3 := pdS K dr dl al o (K + Mo) da (us, by_, pl) (ns K dl)
theorem up_at (ln : Nat → Nat) (o v : Nat) : up ln o v o = v := up_self ln o v
theorem pdCon {o : Nat} (hx : okU (us, by_, pl)) (hK : 0 < K) (hK4 : K ≤ 4) (hM : Mo ≤ 3) (ho : o < 6) (ha : ∀ i, al i < 2) (hda : ∀ i, da i < 256) (hr : ∀ i, dr i < 256) (hdl : dl ≤ 32) : Con l i_V_placeDraft [.ref 0, .int (nI o)] (CA K Mo dr dl ou ol da eq al us by_ (up ln o dl) pl X)
      (.inl (some (.int (nI (if (pd K Mo dr dl al o da us by_ pl).1 = 0 then 0 else 1))), (CA K Mo dr dl ou ol ((pd K Mo dr dl al o da us by_ pl).2.1) eq al ((pd K Mo dr dl al o da us by_ pl).2.2.1) ((pd K Mo dr dl al o da us by_ pl).2.2.2.1) (up ln o dl) ((pd K Mo dr dl al o da us by_ pl).2.2.2.2) X))) := by
  have := con_V_placeDraft (l := l) (Mo := Mo) (ol := ol) (ou := ou) (eq := eq) (ln := up ln o dl) (X := X) hx hK hK4 hM ho ha hda hr hdl (by rw [up_at]; exact hdl)
  rw [up_at] at this
  exact this
theorem con_V_store1 {o : Nat} (hx : okU (us, by_, pl)) (hK : 0 < K) (hK4 : K ≤ 4) (hM : Mo ≤ 3) (ho : o < 6) (ha : ∀ i, al i < 2) (hda : ∀ i, da i < 256) (hr : ∀ i, dr i < 256) (hdl : dl ≤ 32) (h0 : ln o = 0) (hd0 : 0 < dl) (hp : (pd K Mo dr dl al o da us by_ pl).1 ≠ 0) :
    Con l i_V_store [.ref 0, .int (nI o)] (CA K Mo dr dl ou ol da eq al us by_ ln pl X) (.inl (some (.int (nI (ns K dl))), (CA K Mo dr 0 ou ol ((pd K Mo dr dl al o da us by_ pl).2.1) eq al ((pd K Mo dr dl al o da us by_ pl).2.2.1) ((pd K Mo dr dl al o da us by_ pl).2.2.2.1) (up ln o dl) ((pd K Mo dr dl al o da us by_ pl).2.2.2.2) X))) := by
  have hh := con_G_holds (l := l) (K := K) (Mo := Mo) (dl := dl) (ol := ol) (dr := dr) (ou := ou) (da := da) (eq := eq) (al := al) (fr := frOf us) (tk := tkOf us) (by_ := byOf by_) (ln := ln) (pl := plOf (K + Mo) pl) (X := X) ho (by omega)
  rw [if_neg (by omega)] at hh
  have hpd := pdCon (l := l) (Mo := Mo) (ol := ol) (ou := ou) (eq := eq) (ln := ln) (X := X) hx hK hK4 hM ho ha hda hr hdl
  rw [if_neg hp] at hpd
  have hso := con_G_stripesOf (l := l) (K := K) (Mo := Mo) (dl := 0) (ol := ol) (dr := dr) (ou := ou) (da := (pd K Mo dr dl al o da us by_ pl).2.1) (eq := eq) (al := al) (fr := frOf (pd K Mo dr dl al o da us by_ pl).2.2.1) (tk := tkOf (pd K Mo dr dl al o da us by_ pl).2.2.1) (by_ := byOf (pd K Mo dr dl al o da us by_ pl).2.2.2.1) (ln := up ln o dl) (pl := plOf (K + Mo) (pd K Mo dr dl al o da us by_ pl).2.2.2.2) (X := X) ho hK hK4 (by rw [up_at]; omega)
  rw [up_at] at hso
  refine Con.of ?_
  refine J.iload_n d_V_store_0 rfl rfl ?_
  refine J.s1i (con_V_isObj1 ho _) k_V_store_V_isObjectNumber d_V_store_1 rfl ?_
  refine J.if_eqN d_V_store_4 (tgt := 25) (by decide) (by omega) (fun h => ?_) (fun h => ?_)
  · exact absurd h (by decide)
  refine J.aload_n d_V_store_7 rfl rfl ?_
  refine J.getfield d_V_store_8 fl_V_32 rfl rfl ?_
  refine J.iload_n d_V_store_11 rfl rfl ?_
  refine J.v1i hh k_V_store_G_holds d_V_store_12 rfl rfl rfl ?_
  refine J.if_neN d_V_store_15 (tgt := 25) (by decide) (by omega) (fun h => ?_) (fun h => ?_)
  · exact absurd rfl h
  refine J.aload_n d_V_store_18 rfl rfl ?_
  refine J.getfield d_V_store_19 fl_V_40 rfl rfl ?_
  refine J.if_neN d_V_store_22 (tgt := 33) (by decide) (by omega) (fun h2 => ?_) (fun h2 => ?_)
  · refine J.aload_n d_V_store_33 rfl rfl ?_
    refine J.getfield d_V_store_34 fl_V_32 rfl rfl ?_
    refine J.iload_n d_V_store_37 rfl rfl ?_
    refine J.aload_n d_V_store_38 rfl rfl ?_
    refine J.getfield d_V_store_39 fl_V_40 rfl rfl ?_
    refine J.v2v (con_G_enter ho) k_V_store_G_enter d_V_store_42 rfl rfl rfl ?_
    refine J.aload_n d_V_store_45 rfl rfl ?_
    refine J.iload_n d_V_store_46 rfl rfl ?_
    refine J.v1i hpd k_V_store_V_placeDraft d_V_store_47 rfl rfl rfl ?_
    refine J.if_neN d_V_store_50 (tgt := 67) (by decide) (by omega) (fun h3 => ?_) (fun h3 => ?_)
    · refine J.aload_n d_V_store_67 rfl rfl ?_
      refine J.iconst d_V_store_68 (v := nI 0) (by decide) ?_
      refine J.putfield d_V_store_69 (fs_V_40 _) rfl (Nat.le_of_ble_eq_true rfl) rfl rfl ?_
      refine J.aload_n d_V_store_72 rfl rfl ?_
      refine J.getfield d_V_store_73 fl_V_32 rfl rfl ?_
      refine J.iload_n d_V_store_76 rfl rfl ?_
      refine J.v1i hso k_V_store_G_stripesOf d_V_store_77 rfl rfl rfl ?_
      exact J.ireturn d_V_store_80 rfl (by decide) (by decide)
    · exact absurd h3 (by decide)
  · omega
theorem con_V_store2 (hl : l.stackTraces = false) {o : Nat} (hx : okU (us, by_, pl)) (hK : 0 < K) (hK4 : K ≤ 4) (hM : Mo ≤ 3) (ho : o < 6) (ha : ∀ i, al i < 2) (hda : ∀ i, da i < 256) (hr : ∀ i, dr i < 256) (hdl : dl ≤ 32) (h0 : ln o = 0) (hd0 : 0 < dl) (hp : (pd K Mo dr dl al o da us by_ pl).1 = 0) (hR : okR (0, (pd K Mo dr dl al o da us by_ pl).2.2.1, (pd K Mo dr dl al o da us by_ pl).2.2.2.2)) :
    Con l i_V_store [.ref 0, .int (nI o)] (CA K Mo dr dl ou ol da eq al us by_ ln pl X) (.inr ("java/lang/IllegalStateException", (CA K Mo dr dl ou ol ((pd K Mo dr dl al o da us by_ pl).2.1) eq al ((rlS o (K + Mo) (0, (pd K Mo dr dl al o da us by_ pl).2.2.1, (pd K Mo dr dl al o da us by_ pl).2.2.2.2) (ns K dl)).2.1) ((pd K Mo dr dl al o da us by_ pl).2.2.2.1) (up (up ln o dl) o 0) ((rlS o (K + Mo) (0, (pd K Mo dr dl al o da us by_ pl).2.2.1, (pd K Mo dr dl al o da us by_ pl).2.2.2.2) (ns K dl)).2.2) X))) := by
  have hh := con_G_holds (l := l) (K := K) (Mo := Mo) (dl := dl) (ol := ol) (dr := dr) (ou := ou) (da := da) (eq := eq) (al := al) (fr := frOf us) (tk := tkOf us) (by_ := byOf by_) (ln := ln) (pl := plOf (K + Mo) pl) (X := X) ho (by omega)
  rw [if_neg (by omega)] at hh
  have hpd := pdCon (l := l) (Mo := Mo) (ol := ol) (ou := ou) (eq := eq) (ln := ln) (X := X) hx hK hK4 hM ho ha hda hr hdl
  rw [if_pos hp] at hpd
  have hro := con_V_releaseObject (l := l) (dl := dl) (ol := ol) (dr := dr) (ou := ou) (da := (pd K Mo dr dl al o da us by_ pl).2.1) (eq := eq) (al := al) (by_ := (pd K Mo dr dl al o da us by_ pl).2.2.2.1) (ln := up ln o dl) (X := X) hR hK hK4 hM ho (by rw [up_at]; exact hdl)
  rw [up_at] at hro
  refine Con.of ?_
  refine J.iload_n d_V_store_0 rfl rfl ?_
  refine J.s1i (con_V_isObj1 ho _) k_V_store_V_isObjectNumber d_V_store_1 rfl ?_
  refine J.if_eqN d_V_store_4 (tgt := 25) (by decide) (by omega) (fun h => ?_) (fun h => ?_)
  · exact absurd h (by decide)
  refine J.aload_n d_V_store_7 rfl rfl ?_
  refine J.getfield d_V_store_8 fl_V_32 rfl rfl ?_
  refine J.iload_n d_V_store_11 rfl rfl ?_
  refine J.v1i hh k_V_store_G_holds d_V_store_12 rfl rfl rfl ?_
  refine J.if_neN d_V_store_15 (tgt := 25) (by decide) (by omega) (fun h => ?_) (fun h => ?_)
  · exact absurd rfl h
  refine J.aload_n d_V_store_18 rfl rfl ?_
  refine J.getfield d_V_store_19 fl_V_40 rfl rfl ?_
  refine J.if_neN d_V_store_22 (tgt := 33) (by decide) (by omega) (fun h2 => ?_) (fun h2 => ?_)
  · refine J.aload_n d_V_store_33 rfl rfl ?_
    refine J.getfield d_V_store_34 fl_V_32 rfl rfl ?_
    refine J.iload_n d_V_store_37 rfl rfl ?_
    refine J.aload_n d_V_store_38 rfl rfl ?_
    refine J.getfield d_V_store_39 fl_V_40 rfl rfl ?_
    refine J.v2v (con_G_enter ho) k_V_store_G_enter d_V_store_42 rfl rfl rfl ?_
    refine J.aload_n d_V_store_45 rfl rfl ?_
    refine J.iload_n d_V_store_46 rfl rfl ?_
    refine J.v1i hpd k_V_store_V_placeDraft d_V_store_47 rfl rfl rfl ?_
    refine J.if_neN d_V_store_50 (tgt := 67) (by decide) (by omega) (fun h3 => ?_) (fun h3 => ?_)
    · exact absurd rfl h3
    · refine J.aload_n d_V_store_53 rfl rfl ?_
      refine J.iload_n d_V_store_54 rfl rfl ?_
      refine J.v1i hro k_V_store_V_releaseObject d_V_store_55 rfl rfl rfl ?_
      refine J.pop d_V_store_58 rfl ?_
      exact J.throwNew hl tw_ISE d_V_store_59 d_V_store_62 d_V_store_63 d_V_store_66 rfl (by decide) (by decide) ⟨by decide, by decide⟩ ⟨by decide, by decide⟩
  · omega
/-- the stripes ahead of n read: the equations, the output -/
def gtS (K Mo : Nat) (pl by_ : Nat → Nat) (o : Nat) (x : ED × (Nat → Nat)) : Nat → ED × (Nat → Nat)
  | 0 => x
  | s + 1 => (rdC K (K + Mo) (lsB pl o s) (vb pl by_ o s) (gtS K Mo pl by_ o x s).1.1 (gtS K Mo pl by_ o x s).1.2, co K (rdC K (K + Mo) (lsB pl o s) (vb pl by_ o s) (gtS K Mo pl by_ o x s).1.1 (gtS K Mo pl by_ o x s).1.2).2 (gtS K Mo pl by_ o x s).2 s (4 * K))
theorem gtS_b {K Mo : Nat} {pl by_ : Nat → Nat} {o : Nat} {x : ED × (Nat → Nat)} (hx : b256 x.1) (hby : ∀ i, by_ i < 256) : ∀ n, b256 (gtS K Mo pl by_ o x n).1
  | 0 => hx
  | n + 1 => rdC_b (gtS_b hx hby n).1 (gtS_b hx hby n).2 (fun _ _ => hby _)
theorem anyB_false {p : Nat → Bool} : ∀ n, anyB p n = false → ∀ i, i < n → p i = false
  | 0, _, i, hi => absurd hi (Nat.not_lt_zero _)
  | n + 1, h, i, hi => by
    simp only [anyB, Bool.or_eq_false_iff] at h
    rcases Nat.lt_or_ge i n with z | z
    · exact anyB_false n h.1 i z
    · have : i = n := by omega
      subst this; exact h.2
theorem lp_V_get {o : Nat} {x : ED × (Nat → Nat)} (hx : b256 x.1) (hK : 0 < K) (hK4 : K ≤ 4) (hM0 : 0 < Mo) (hM : Mo ≤ 3) (ho : o < 6) (hp : ∀ i, pl i ≤ 80) (hby : ∀ i, by_ i < 256) (hln : ln o ≤ 32) (hng : anyB (gn pl Mo o (K + Mo)) (ns K (ln o)) = false) {k n : Nat} (hk : k = 1) (hn : n = 6) : ∀ (j i : Nat), i + j = ns K (ln o) →
    J l i_V_get 23 [(0, .ref 0), (1, .int (nI o)), (2, .int (nI i))] [] (CA K Mo dr dl ((gtS K Mo pl by_ o x i).2) ol ((gtS K Mo pl by_ o x i).1.2) ((gtS K Mo pl by_ o x i).1.1) al us by_ ln pl X) k n (.inl (some (.int (nI (ln o))), (CA K Mo dr dl ((gtS K Mo pl by_ o x (ns K (ln o))).2) (ln o) ((gtS K Mo pl by_ o x (ns K (ln o))).1.2) ((gtS K Mo pl by_ o x (ns K (ln o))).1.1) al us by_ ln pl X)))
  | 0, i, hi => by
    subst hk hn
    have hn8 := ns_le hK hln
    have hi' : i = ns K (ln o) := by omega
    rw [hi']
    refine J.iload_n d_V_get_23 rfl rfl ?_
    refine J.aload_n d_V_get_24 rfl rfl ?_
    refine J.getfield d_V_get_25 fl_V_32 rfl rfl ?_
    refine J.iload_n d_V_get_28 rfl rfl ?_
    refine J.v1i (con_G_stripesOf ho hK hK4 (by omega)) k_V_get_G_stripesOf d_V_get_29 rfl rfl rfl ?_
    refine J.icmp_geN d_V_get_32 (tgt := 59) (by decide) (by omega) (by omega) (fun h => ?_) (fun h => ?_)
    · refine J.aload_n d_V_get_59 rfl rfl ?_
      refine J.aload_n d_V_get_60 rfl rfl ?_
      refine J.getfield d_V_get_61 fl_V_32 rfl rfl ?_
      refine J.iload_n d_V_get_64 rfl rfl ?_
      refine J.v1i (con_G_lengthOf ho) k_V_get_G_lengthOf d_V_get_65 rfl rfl rfl ?_
      refine J.putfield d_V_get_68 (fs_V_47 _) rfl (Nat.le_of_ble_eq_true rfl) rfl rfl ?_
      refine J.aload_n d_V_get_71 rfl rfl ?_
      refine J.getfield d_V_get_72 fl_V_47 rfl rfl ?_
      exact J.ireturn d_V_get_75 rfl (by decide) (by decide)
    · omega
  | j + 1, i, hi => by
    have hn8 := ns_le hK hln
    have hs8 : i < 8 := by omega
    have hb := gtS_b (K := K) (Mo := Mo) (pl := pl) (o := o) hx hby i
    have hg := anyB_false _ hng i (by omega)
    have hnl : nl pl o i (K + Mo) ≤ Mo := by simpa [gn] using hg
    have ih := lp_V_get hx hK hK4 hM0 hM ho hp hby hln hng hk hn j (i + 1) (by omega)
    subst hk hn
    refine J.iload_n d_V_get_23 rfl rfl ?_
    refine J.aload_n d_V_get_24 rfl rfl ?_
    refine J.getfield d_V_get_25 fl_V_32 rfl rfl ?_
    refine J.iload_n d_V_get_28 rfl rfl ?_
    refine J.v1i (con_G_stripesOf ho hK hK4 (by omega)) k_V_get_G_stripesOf d_V_get_29 rfl rfl rfl ?_
    refine J.icmp_geN d_V_get_32 (tgt := 59) (by decide) (by omega) (by omega) (fun h => ?_) (fun h => ?_)
    · omega
    refine J.aload_n d_V_get_35 rfl rfl ?_
    refine J.aload_n d_V_get_36 rfl rfl ?_
    refine J.getfield d_V_get_37 fl_V_32 rfl rfl ?_
    refine J.iload_n d_V_get_40 rfl rfl ?_
    refine J.iload_n d_V_get_41 rfl rfl ?_
    refine J.v2i con_G_rowOf k_V_get_G_rowOf d_V_get_42 rfl rfl rfl ?_
    refine J.v1v (con_V_readStripe hK hK4 hM ho hs8 hp (selOk_nl hK hK4 hM0 hM hnl) hb.1 hb.2 hby) k_V_get_V_readStripe d_V_get_45 rfl rfl rfl ?_
    refine J.aload_n d_V_get_48 rfl rfl ?_
    refine J.iload_n d_V_get_49 rfl rfl ?_
    refine J.v1v (con_V_copyDataToOutput hK4 hs8) k_V_get_V_copyDataToOutput d_V_get_50 rfl rfl rfl ?_
    refine J.iincN d_V_get_53 rfl rfl (by decide) rfl ?_
    refine J.goto d_V_get_56 (tgt := 23) (by decide) ?_
    exact ih
theorem con_V_get1 {o : Nat} (he : ∀ i, eq i < 256) (hda : ∀ i, da i < 256) (hK : 0 < K) (hK4 : K ≤ 4) (hM0 : 0 < Mo) (hM : Mo ≤ 3) (ho : o < 6) (hp : ∀ i, pl i ≤ 80) (hby : ∀ i, by_ i < 256) (hl : 0 < ln o) (hln : ln o ≤ 32) (hng : anyB (gn pl Mo o (K + Mo)) (ns K (ln o)) = false) :
    Con l i_V_get [.ref 0, .int (nI o)] (CA K Mo dr dl ou ol da eq al us by_ ln pl X) (.inl (some (.int (nI (ln o))), (CA K Mo dr dl ((gtS K Mo pl by_ o ((eq, da), ou) (ns K (ln o))).2) (ln o) ((gtS K Mo pl by_ o ((eq, da), ou) (ns K (ln o))).1.2) ((gtS K Mo pl by_ o ((eq, da), ou) (ns K (ln o))).1.1) al us by_ ln pl X))) := by
  have hgs := con_V_hasGoneStripe (l := l) (dl := dl) (ol := ol) (dr := dr) (ou := ou) (da := da) (eq := eq) (al := al) (us := us) (by_ := by_) (X := X) hK hK4 hM ho hp hln
  rw [hng] at hgs
  have hbf : b2n false = 0 := rfl
  refine Con.of ?_
  refine J.aload_n d_V_get_0 rfl rfl ?_
  refine J.iload_n d_V_get_1 rfl rfl ?_
  refine J.v1v (con_V_reqO1 ho hl hln) k_V_get_V_requireObject d_V_get_2 rfl rfl rfl ?_
  refine J.aload_n d_V_get_5 rfl rfl ?_
  refine J.iload_n d_V_get_6 rfl rfl ?_
  refine J.v1i hgs k_V_get_V_hasGoneStripe d_V_get_7 rfl rfl rfl ?_
  refine J.if_eqN d_V_get_10 (tgt := 21) (by decide) (by omega) (fun h => ?_) (fun h => ?_)
  · refine J.iconst d_V_get_21 (v := nI 0) (by decide) ?_
    refine J.istore_n d_V_get_22 rfl (by decide) rfl ?_
    exact lp_V_get (x := ((eq, da), ou)) ⟨he, hda⟩ hK hK4 hM0 hM ho hp hby hln hng rfl rfl (ns K (ln o)) 0 (by omega)
  · exact absurd rfl h
theorem con_V_get0 (hl : l.stackTraces = false) {x : Int32} (hx : noO ln x) : Con l i_V_get [.ref 0, .int x] (CA K Mo dr dl ou ol da eq al us by_ ln pl X) (.inr ("java/util/NoSuchElementException", (CA K Mo dr dl ou ol da eq al us by_ ln pl X))) := by
  refine Con.of ?_
  refine J.aload_n d_V_get_0 rfl rfl ?_
  refine J.iload_n d_V_get_1 rfl rfl ?_
  exact J.t1 (con_V_reqO0 hl hx) k_V_get_V_requireObject d_V_get_2 rfl rfl
theorem con_V_get2 (hl0 : l.stackTraces = false) {o : Nat} (hK : 0 < K) (hK4 : K ≤ 4) (hM : Mo ≤ 3) (ho : o < 6) (hp : ∀ i, pl i ≤ 80) (hl : 0 < ln o) (hln : ln o ≤ 32) (hg : anyB (gn pl Mo o (K + Mo)) (ns K (ln o)) = true) : Con l i_V_get [.ref 0, .int (nI o)] (CA K Mo dr dl ou ol da eq al us by_ ln pl X) (.inr ("java/lang/IllegalStateException", (CA K Mo dr dl ou ol da eq al us by_ ln pl X))) := by
  have hgs := con_V_hasGoneStripe (l := l) (dl := dl) (ol := ol) (dr := dr) (ou := ou) (da := da) (eq := eq) (al := al) (us := us) (by_ := by_) (X := X) hK hK4 hM ho hp hln
  rw [hg] at hgs
  have hbt : b2n true = 1 := rfl
  refine Con.of ?_
  refine J.aload_n d_V_get_0 rfl rfl ?_
  refine J.iload_n d_V_get_1 rfl rfl ?_
  refine J.v1v (con_V_reqO1 ho hl hln) k_V_get_V_requireObject d_V_get_2 rfl rfl rfl ?_
  refine J.aload_n d_V_get_5 rfl rfl ?_
  refine J.iload_n d_V_get_6 rfl rfl ?_
  refine J.v1i hgs k_V_get_V_hasGoneStripe d_V_get_7 rfl rfl rfl ?_
  refine J.if_eqN d_V_get_10 (tgt := 21) (by decide) (by omega) (fun h => ?_) (fun h => ?_)
  · exact absurd h (by decide)
  · exact J.throwNew hl0 tw_ISE d_V_get_13 d_V_get_16 d_V_get_17 d_V_get_20 rfl (by decide) (by decide) ⟨by decide, by decide⟩ ⟨by decide, by decide⟩
/-- the stripes ahead of n checked: the equations, how many are wrong -/
def ckS (K Mo : Nat) (pl by_ : Nat → Nat) (o : Nat) (x : ED × Nat) : Nat → ED × Nat
  | 0 => x
  | s + 1 => if Mo < nl pl o s (K + Mo) then ckS K Mo pl by_ o x s else (rdC K (K + Mo) (lsB pl o s) (vb pl by_ o s) (ckS K Mo pl by_ o x s).1.1 (ckS K Mo pl by_ o x s).1.2, (ckS K Mo pl by_ o x s).2 + b2n (anyB (ws1 K (rdC K (K + Mo) (lsB pl o s) (vb pl by_ o s) (ckS K Mo pl by_ o x s).1.1 (ckS K Mo pl by_ o x s).1.2).2 by_ pl o s) (K + Mo)))
theorem ckS_b {K Mo : Nat} {pl by_ : Nat → Nat} {o : Nat} {x : ED × Nat} (hx : b256 x.1) (hby : ∀ i, by_ i < 256) : ∀ n, b256 (ckS K Mo pl by_ o x n).1
  | 0 => hx
  | n + 1 => by
    unfold ckS; split
    · exact ckS_b hx hby n
    · exact rdC_b (ckS_b hx hby n).1 (ckS_b hx hby n).2 (fun _ _ => hby _)
theorem lp_V_check {o : Nat} {x : ED × Nat} (hx : b256 x.1) (hK : 0 < K) (hK4 : K ≤ 4) (hM0 : 0 < Mo) (hM : Mo ≤ 3) (ho : o < 6) (hp : ∀ i, pl i ≤ 80) (hby : ∀ i, by_ i < 256) (hln : ln o ≤ 32) {k n : Nat} (hk : k = 1) (hn : n = 6) : ∀ (j i : Nat), i + j = ns K (ln o) →
    J l i_V_check 9 [(0, .ref 0), (1, .int (nI o)), (2, .int (nI (ckS K Mo pl by_ o x i).2)), (3, .int (nI i))] [] (CA K Mo dr dl ou ol ((ckS K Mo pl by_ o x i).1.2) ((ckS K Mo pl by_ o x i).1.1) al us by_ ln pl X) k n (.inl (some (.int (nI (ckS K Mo pl by_ o x (ns K (ln o))).2)), (CA K Mo dr dl ou ol ((ckS K Mo pl by_ o x (ns K (ln o))).1.2) ((ckS K Mo pl by_ o x (ns K (ln o))).1.1) al us by_ ln pl X)))
  | 0, i, hi => by
    subst hk hn
    have hn8 := ns_le hK hln
    have hi' : i = ns K (ln o) := by omega
    rw [hi']
    refine J.iload_n d_V_check_9 rfl rfl ?_
    refine J.aload_n d_V_check_10 rfl rfl ?_
    refine J.getfield d_V_check_11 fl_V_32 rfl rfl ?_
    refine J.iload_n d_V_check_14 rfl rfl ?_
    refine J.v1i (con_G_stripesOf ho hK hK4 (by omega)) k_V_check_G_stripesOf d_V_check_15 rfl rfl rfl ?_
    refine J.icmp_geN d_V_check_18 (tgt := 59) (by decide) (by omega) (by omega) (fun h => ?_) (fun h => ?_)
    · refine J.iload_n d_V_check_59 rfl rfl ?_
      exact J.ireturn d_V_check_60 rfl (by decide) (by decide)
    · omega
  | j + 1, i, hi => by
    have hn8 := ns_le hK hln
    have hS : K + Mo ≤ 7 := by omega
    have hs8 : i < 8 := by omega
    have hb := ckS_b (K := K) (Mo := Mo) (pl := pl) (o := o) hx hby i
    have ih := lp_V_check hx hK hK4 hM0 hM ho hp hby hln hk hn j (i + 1) (by omega)
    subst hk hn
    refine J.iload_n d_V_check_9 rfl rfl ?_
    refine J.aload_n d_V_check_10 rfl rfl ?_
    refine J.getfield d_V_check_11 fl_V_32 rfl rfl ?_
    refine J.iload_n d_V_check_14 rfl rfl ?_
    refine J.v1i (con_G_stripesOf ho hK hK4 (by omega)) k_V_check_G_stripesOf d_V_check_15 rfl rfl rfl ?_
    refine J.icmp_geN d_V_check_18 (tgt := 59) (by decide) (by omega) (by omega) (fun h => ?_) (fun h => ?_)
    · omega
    refine J.aload_n d_V_check_21 rfl rfl ?_
    refine J.getfield d_V_check_22 fl_V_32 rfl rfl ?_
    refine J.iload_n d_V_check_25 rfl rfl ?_
    refine J.iload_n d_V_check_26 rfl rfl ?_
    refine J.v2i con_G_rowOf k_V_check_G_rowOf d_V_check_27 rfl rfl rfl ?_
    refine J.istore d_V_check_30 (by decide) rfl ?_
    refine J.aload_n d_V_check_32 rfl rfl ?_
    refine J.iload d_V_check_33 rfl ?_
    refine J.v1i (con_V_isGone hS ho hs8 hp) k_V_check_V_isGone d_V_check_35 rfl rfl rfl ?_
    by_cases hg : Mo < nl pl o i (K + Mo)
    · rw [if_pos hg]
      have e : ckS K Mo pl by_ o x (i + 1) = ckS K Mo pl by_ o x i := by
        show (if _ then _ else _) = _
        rw [if_pos hg]
      rw [e] at ih
      refine J.if_neN d_V_check_38 (tgt := 53) (by decide) (by omega) (fun h3 => ?_) (fun h3 => ?_)
      · refine J.iincN d_V_check_53 rfl rfl (by decide) rfl ?_
        refine J.goto d_V_check_56 (tgt := 9) (by decide) ?_
        exact J.sub [0, 1, 2, 3] ih
      · exact absurd h3 (by decide)
    · rw [if_neg hg]
      have e : ckS K Mo pl by_ o x (i + 1) = (rdC K (K + Mo) (lsB pl o i) (vb pl by_ o i) (ckS K Mo pl by_ o x i).1.1 (ckS K Mo pl by_ o x i).1.2, (ckS K Mo pl by_ o x i).2 + b2n (anyB (ws1 K (rdC K (K + Mo) (lsB pl o i) (vb pl by_ o i) (ckS K Mo pl by_ o x i).1.1 (ckS K Mo pl by_ o x i).1.2).2 by_ pl o i) (K + Mo))) := by
        show (if _ then _ else _) = _
        rw [if_neg hg]
      rw [e] at ih
      refine J.if_neN d_V_check_38 (tgt := 53) (by decide) (by omega) (fun h3 => ?_) (fun h3 => ?_)
      · exact absurd rfl h3
      refine J.aload_n d_V_check_41 rfl rfl ?_
      refine J.iload d_V_check_42 rfl ?_
      refine J.v1i (con_V_hasWrongShard hK hK4 hM ho hs8 hp (selOk_nl hK hK4 hM0 hM (by omega)) hb.1 hb.2 hby) k_V_check_V_hasWrongShard d_V_check_44 rfl rfl rfl ?_
      cases hz : anyB (ws1 K (rdC K (K + Mo) (lsB pl o i) (vb pl by_ o i) (ckS K Mo pl by_ o x i).1.1 (ckS K Mo pl by_ o x i).1.2).2 by_ pl o i) (K + Mo) with
      | true =>
        rw [hz] at ih
        have hbt : b2n true = 1 := rfl
        refine J.if_eqN d_V_check_47 (tgt := 53) (by decide) (by omega) (fun h4 => ?_) (fun h4 => ?_)
        · exact absurd h4 (by decide)
        · refine J.iincN d_V_check_50 rfl rfl (by decide) rfl ?_
          refine J.iincN d_V_check_53 rfl rfl (by decide) rfl ?_
          refine J.goto d_V_check_56 (tgt := 9) (by decide) ?_
          exact J.sub [0, 1, 2, 3] ih
      | false =>
        rw [hz] at ih
        have hbf : b2n false = 0 := rfl
        refine J.if_eqN d_V_check_47 (tgt := 53) (by decide) (by omega) (fun h4 => ?_) (fun h4 => ?_)
        · refine J.iincN d_V_check_53 rfl rfl (by decide) rfl ?_
          refine J.goto d_V_check_56 (tgt := 9) (by decide) ?_
          exact J.sub [0, 1, 2, 3] ih
        · exact absurd rfl h4
theorem con_V_check1 {o : Nat} (he : ∀ i, eq i < 256) (hda : ∀ i, da i < 256) (hK : 0 < K) (hK4 : K ≤ 4) (hM0 : 0 < Mo) (hM : Mo ≤ 3) (ho : o < 6) (hp : ∀ i, pl i ≤ 80) (hby : ∀ i, by_ i < 256) (hl : 0 < ln o) (hln : ln o ≤ 32) :
    Con l i_V_check [.ref 0, .int (nI o)] (CA K Mo dr dl ou ol da eq al us by_ ln pl X) (.inl (some (.int (nI (ckS K Mo pl by_ o ((eq, da), 0) (ns K (ln o))).2)), (CA K Mo dr dl ou ol ((ckS K Mo pl by_ o ((eq, da), 0) (ns K (ln o))).1.2) ((ckS K Mo pl by_ o ((eq, da), 0) (ns K (ln o))).1.1) al us by_ ln pl X))) := by
  refine Con.of ?_
  refine J.aload_n d_V_check_0 rfl rfl ?_
  refine J.iload_n d_V_check_1 rfl rfl ?_
  refine J.v1v (con_V_reqO1 ho hl hln) k_V_check_V_requireObject d_V_check_2 rfl rfl rfl ?_
  refine J.iconst d_V_check_5 (v := nI 0) (by decide) ?_
  refine J.istore_n d_V_check_6 rfl (by decide) rfl ?_
  refine J.iconst d_V_check_7 (v := nI 0) (by decide) ?_
  refine J.istore_n d_V_check_8 rfl (by decide) rfl ?_
  exact lp_V_check (x := ((eq, da), 0)) ⟨he, hda⟩ hK hK4 hM0 hM ho hp hby hln rfl rfl (ns K (ln o)) 0 (by omega)
theorem con_V_check0 (hl : l.stackTraces = false) {x : Int32} (hx : noO ln x) : Con l i_V_check [.ref 0, .int x] (CA K Mo dr dl ou ol da eq al us by_ ln pl X) (.inr ("java/util/NoSuchElementException", (CA K Mo dr dl ou ol da eq al us by_ ln pl X))) := by
  refine Con.of ?_
  refine J.aload_n d_V_check_0 rfl rfl ?_
  refine J.iload_n d_V_check_1 rfl rfl ?_
  exact J.t1 (con_V_reqO0 hl hx) k_V_check_V_requireObject d_V_check_2 rfl rfl
end PUB2
