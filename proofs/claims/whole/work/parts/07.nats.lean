section NATS
variable {l : Launch} {I : MI} {pc : Nat} {lv : List (Nat × Value)} {st : List Value} {M : List va_E} {k n : Nat} {out : Out}
/-- a function set at a place -/
def up (f : Nat → Nat) (i v : Nat) : Nat → Nat := fun j => if j = i then v else f j
theorem up_self (f : Nat → Nat) (i v : Nat) : up f i v i = v := by simp [up]
theorem up_ne (f : Nat → Nat) {i j : Nat} (v : Nat) (h : j ≠ i) : up f i v j = f j := by simp [up, h]
/-- an array of small numbers -/
abbrev aI (n : Nat) (g : Nat → Nat) : va_E := .inl (0, n, .inl (fun j => nI (g j)))
abbrev aZ (n : Nat) (g : Nat → Nat) : va_E := .inl (1, n, .inl (fun j => nI (g j)))
/-- an array of numbers less one: minus one is nothing -/
def pI (n : Nat) : Int32 := nI n - 1
abbrev aP (n : Nat) (g : Nat → Nat) : va_E := .inl (0, n, .inl (fun j => pI (g j)))
theorem upd_nI (g : Nat → Nat) (i v : Nat) : upd (fun j => nI (g j)) i (nI v) = fun j => nI (up g i v j) := by
  funext j; unfold upd up; split <;> rfl
theorem upd_pI (g : Nat → Nat) (i v : Nat) : upd (fun j => pI (g j)) i (pI v) = fun j => pI (up g i v j) := by
  funext j; unfold upd up; split <;> rfl
theorem nI_xor (a b : Nat) : nI a ^^^ nI b = nI (a ^^^ b) := by
  unfold nI
  apply Int32.toBitVec_inj.mp
  simp [BitVec.ofNat_xor]
theorem nI_and (a b : Nat) : nI a &&& nI b = nI (a &&& b) := by
  unfold nI
  apply Int32.toBitVec_inj.mp
  simp [BitVec.ofNat_and]
theorem J.iaddN {a b : Nat} {r : List Value} (hd : decode I.cc pc = .ok (.iadd, 1)) (kk : J l I (pc + 1) lv (.int (nI (a + b)) :: r) M k n out) : J l I pc lv (.int (nI b) :: .int (nI a) :: r) M k n out := J.iadd hd (by rw [nI_add]; exact kk)
theorem J.isubN {a b : Nat} {r : List Value} (hd : decode I.cc pc = .ok (.isub, 1)) (h : b ≤ a) (kk : J l I (pc + 1) lv (.int (nI (a - b)) :: r) M k n out) : J l I pc lv (.int (nI b) :: .int (nI a) :: r) M k n out := J.isub hd (by rw [pk_sub h]; exact kk)
theorem J.imulN {a b : Nat} {r : List Value} (hd : decode I.cc pc = .ok (.imul, 1)) (kk : J l I (pc + 1) lv (.int (nI (a * b)) :: r) M k n out) : J l I pc lv (.int (nI b) :: .int (nI a) :: r) M k n out := J.imul hd (by rw [pk_mul]; exact kk)
theorem J.ixorN {a b : Nat} {r : List Value} (hd : decode I.cc pc = .ok (.ixor, 1)) (kk : J l I (pc + 1) lv (.int (nI (a ^^^ b)) :: r) M k n out) : J l I pc lv (.int (nI b) :: .int (nI a) :: r) M k n out := J.ixor hd (by rw [nI_xor]; exact kk)
theorem J.iandN {a b : Nat} {r : List Value} (hd : decode I.cc pc = .ok (.iand, 1)) (kk : J l I (pc + 1) lv (.int (nI (a &&& b)) :: r) M k n out) : J l I pc lv (.int (nI b) :: .int (nI a) :: r) M k n out := J.iand hd (by rw [nI_and]; exact kk)
theorem J.idivN {a b : Nat} {r : List Value} (hd : decode I.cc pc = .ok (.idiv, 1)) (ha : a < 2 ^ 31) (h0 : 0 < b) (hb : b < 2 ^ 31) (kk : J l I (pc + 1) lv (.int (nI (a / b)) :: r) M k n out) : J l I pc lv (.int (nI b) :: .int (nI a) :: r) M k n out := J.idiv hd (nI_ne0 h0 hb) (by rw [pk_div ha h0 hb]; exact kk)
theorem J.iremN {a b : Nat} {r : List Value} (hd : decode I.cc pc = .ok (.irem, 1)) (ha : a < 2 ^ 31) (h0 : 0 < b) (hb : b < 2 ^ 31) (kk : J l I (pc + 1) lv (.int (nI (a % b)) :: r) M k n out) : J l I pc lv (.int (nI b) :: .int (nI a) :: r) M k n out := J.irem hd (nI_ne0 h0 hb) (by rw [pk_rem ha h0 hb]; exact kk)
theorem sh31 : ∀ i : Fin 32, ((nI i.val &&& 31).toBitVec.smod 32).toNat = i.val := by decide +kernel
theorem J.ishrN {a b : Nat} {r : List Value} (hd : decode I.cc pc = .ok (.ishr, 1)) (ha : a < 2 ^ 31) (hb : b < 32) (kk : J l I (pc + 1) lv (.int (nI (a / 2 ^ b)) :: r) M k n out) : J l I pc lv (.int (nI b) :: .int (nI a) :: r) M k n out := J.ishr hd (by rw [pk_shrN ha _ b (sh31 ⟨b, hb⟩)]; exact kk)
theorem J.iincN {i a : Nat} {z : Int} (hd : decode I.cc pc = .ok (.iinc i z, 3)) (hz : z = 1) (hl : lk lv i = some (.int (nI a))) (hn : i < I.nL) (hs : sok lv i = true) (kk : J l I (pc + 3) (sv lv i (.int (nI (a + 1)))) st M k n out) : J l I pc lv st M k n out := J.iinc hd hl (by rw [hz, nI_succ]; rfl) hn hs kk
theorem J.ialoadN {a len i : Nat} {g : Nat → Nat} {r : List Value} (hd : decode I.cc pc = .ok (.iaload, 1)) (hM : M[a]? = some (aI len g)) (hl : len < 2 ^ 31) (hi : i < len) (kk : J l I (pc + 1) lv (.int (nI (g i)) :: r) M k n out) : J l I pc lv (.int (nI i) :: .ref a :: r) M k n out :=
  J.ialoadR hd hM (vp_in_nI hi hl) (by rw [nI_clamp (Nat.lt_trans hi hl)]; exact kk)
theorem J.ialoadP {a len i : Nat} {g : Nat → Nat} {r : List Value} (hd : decode I.cc pc = .ok (.iaload, 1)) (hM : M[a]? = some (aP len g)) (hl : len < 2 ^ 31) (hi : i < len) (kk : J l I (pc + 1) lv (.int (pI (g i)) :: r) M k n out) : J l I pc lv (.int (nI i) :: .ref a :: r) M k n out :=
  J.ialoadR hd hM (vp_in_nI hi hl) (by rw [nI_clamp (Nat.lt_trans hi hl)]; exact kk)
theorem J.baloadN {a len i : Nat} {g : Nat → Nat} {r : List Value} (hd : decode I.cc pc = .ok (.baload, 1)) (hM : M[a]? = some (aZ len g)) (hl : len < 2 ^ 31) (hi : i < len) (kk : J l I (pc + 1) lv (.int (nI (g i)) :: r) M k n out) : J l I pc lv (.int (nI i) :: .ref a :: r) M k n out :=
  J.baloadR hd hM (vp_in_nI hi hl) (by rw [nI_clamp (Nat.lt_trans hi hl)]; exact kk)
theorem J.iastoreN {a len i v : Nat} {g : Nat → Nat} {r : List Value} (hd : decode I.cc pc = .ok (.iastore, 1)) (hM : M[a]? = some (aI len g)) (hl : len < 2 ^ 31) (hi : i < len) (kk : J l I (pc + 1) lv r (M.set a (aI len (up g i v))) k n out) : J l I pc lv (.int (nI v) :: .int (nI i) :: .ref a :: r) M k n out :=
  J.iastoreR hd hM (vp_in_nI hi hl) (by rw [nI_clamp (Nat.lt_trans hi hl), upd_nI]; exact kk)
theorem J.iastoreP {a len i v : Nat} {g : Nat → Nat} {r : List Value} (hd : decode I.cc pc = .ok (.iastore, 1)) (hM : M[a]? = some (aP len g)) (hl : len < 2 ^ 31) (hi : i < len) (kk : J l I (pc + 1) lv r (M.set a (aP len (up g i v))) k n out) : J l I pc lv (.int (pI v) :: .int (nI i) :: .ref a :: r) M k n out :=
  J.iastoreR hd hM (vp_in_nI hi hl) (by rw [nI_clamp (Nat.lt_trans hi hl), upd_pI]; exact kk)
theorem nar01 : ∀ v : Fin 2, vp_nar .boolean (nI v.val) = nI v.val := by decide +kernel
theorem J.bastoreN {a len i v : Nat} {g : Nat → Nat} {r : List Value} (hd : decode I.cc pc = .ok (.bastore, 1)) (hM : M[a]? = some (aZ len g)) (hl : len < 2 ^ 31) (hi : i < len) (hv : v < 2) (kk : J l I (pc + 1) lv r (M.set a (aZ len (up g i v))) k n out) : J l I pc lv (.int (nI v) :: .int (nI i) :: .ref a :: r) M k n out :=
  J.bastoreR hd hM (vp_in_nI hi hl) (by rw [nI_clamp (Nat.lt_trans hi hl), nar01 ⟨v, hv⟩, upd_nI]; exact kk)
theorem J.icmp_ltN {a b : Nat} {off : Int} {tgt : Nat} {r : List Value} (hd : decode I.cc pc = .ok (.if_icmp .lt off, 3)) (ht : (pc : Int) + off = (tgt : Int)) (ha : a < 2 ^ 31) (hb : b < 2 ^ 31) (kt : a < b → J l I tgt lv r M k n out) (kf : b ≤ a → J l I (pc + 3) lv r M k n out) : J l I pc lv (.int (nI b) :: .int (nI a) :: r) M k n out :=
  J.icmp_lt hd ht (fun h => kt ((nI_ltI ha hb).mp h)) (fun h => kf (by have := mt (nI_ltI ha hb).mpr h; omega))
theorem J.icmp_geN {a b : Nat} {off : Int} {tgt : Nat} {r : List Value} (hd : decode I.cc pc = .ok (.if_icmp .ge off, 3)) (ht : (pc : Int) + off = (tgt : Int)) (ha : a < 2 ^ 31) (hb : b < 2 ^ 31) (kt : b ≤ a → J l I tgt lv r M k n out) (kf : a < b → J l I (pc + 3) lv r M k n out) : J l I pc lv (.int (nI b) :: .int (nI a) :: r) M k n out :=
  J.icmp_ge hd ht (fun h => kt ((nI_leI hb ha).mp h)) (fun h => kf (by have := mt (nI_leI hb ha).mpr h; omega))
theorem J.icmp_gtN {a b : Nat} {off : Int} {tgt : Nat} {r : List Value} (hd : decode I.cc pc = .ok (.if_icmp .gt off, 3)) (ht : (pc : Int) + off = (tgt : Int)) (ha : a < 2 ^ 31) (hb : b < 2 ^ 31) (kt : b < a → J l I tgt lv r M k n out) (kf : a ≤ b → J l I (pc + 3) lv r M k n out) : J l I pc lv (.int (nI b) :: .int (nI a) :: r) M k n out :=
  J.icmp_gt hd ht (fun h => kt ((nI_ltI hb ha).mp h)) (fun h => kf (by have := mt (nI_ltI hb ha).mpr h; omega))
theorem J.icmp_leN {a b : Nat} {off : Int} {tgt : Nat} {r : List Value} (hd : decode I.cc pc = .ok (.if_icmp .le off, 3)) (ht : (pc : Int) + off = (tgt : Int)) (ha : a < 2 ^ 31) (hb : b < 2 ^ 31) (kt : a ≤ b → J l I tgt lv r M k n out) (kf : b < a → J l I (pc + 3) lv r M k n out) : J l I pc lv (.int (nI b) :: .int (nI a) :: r) M k n out :=
  J.icmp_le hd ht (fun h => kt ((nI_leI ha hb).mp h)) (fun h => kf (by have := mt (nI_leI ha hb).mpr h; omega))
theorem J.icmp_eqN {a b : Nat} {off : Int} {tgt : Nat} {r : List Value} (hd : decode I.cc pc = .ok (.if_icmp .eq off, 3)) (ht : (pc : Int) + off = (tgt : Int)) (ha : a < 2 ^ 31) (hb : b < 2 ^ 31) (kt : a = b → J l I tgt lv r M k n out) (kf : a ≠ b → J l I (pc + 3) lv r M k n out) : J l I pc lv (.int (nI b) :: .int (nI a) :: r) M k n out :=
  J.icmp_eq hd ht (fun h => kt ((nI_eq ha hb).mp h)) (fun h => kf (fun q => h (q ▸ rfl)))
theorem J.icmp_neN {a b : Nat} {off : Int} {tgt : Nat} {r : List Value} (hd : decode I.cc pc = .ok (.if_icmp .ne off, 3)) (ht : (pc : Int) + off = (tgt : Int)) (ha : a < 2 ^ 31) (hb : b < 2 ^ 31) (kt : a ≠ b → J l I tgt lv r M k n out) (kf : a = b → J l I (pc + 3) lv r M k n out) : J l I pc lv (.int (nI b) :: .int (nI a) :: r) M k n out :=
  J.icmp_ne hd ht (fun h => kt (fun q => h (q ▸ rfl))) (fun h => kf ((nI_eq ha hb).mp h))
theorem J.if_eqN {a : Nat} {off : Int} {tgt : Nat} {r : List Value} (hd : decode I.cc pc = .ok (.ifCond .eq off, 3)) (ht : (pc : Int) + off = (tgt : Int)) (ha : a < 2 ^ 31) (kt : a = 0 → J l I tgt lv r M k n out) (kf : a ≠ 0 → J l I (pc + 3) lv r M k n out) : J l I pc lv (.int (nI a) :: r) M k n out :=
  J.if_eq hd ht (fun h => kt ((nI_eq ha (by decide)).mp (h.trans nI_0.symm))) (fun h => kf (fun q => h (by rw [q]; exact nI_0)))
theorem J.if_neN {a : Nat} {off : Int} {tgt : Nat} {r : List Value} (hd : decode I.cc pc = .ok (.ifCond .ne off, 3)) (ht : (pc : Int) + off = (tgt : Int)) (ha : a < 2 ^ 31) (kt : a ≠ 0 → J l I tgt lv r M k n out) (kf : a = 0 → J l I (pc + 3) lv r M k n out) : J l I pc lv (.int (nI a) :: r) M k n out :=
  J.if_ne hd ht (fun h => kt (fun q => h (by rw [q]; exact nI_0))) (fun h => kf ((nI_eq ha (by decide)).mp (h.trans nI_0.symm)))
theorem J.if_ltN {a : Nat} {off : Int} {tgt : Nat} {r : List Value} (hd : decode I.cc pc = .ok (.ifCond .lt off, 3)) (ht : (pc : Int) + off = (tgt : Int)) (ha : a < 2 ^ 31)  (kf : True → J l I (pc + 3) lv r M k n out) : J l I pc lv (.int (nI a) :: r) M k n out :=
  J.if_lt hd ht (fun h => (nI_pos ha h).elim) (fun _ => kf trivial)
theorem J.if_geN {a : Nat} {off : Int} {tgt : Nat} {r : List Value} (hd : decode I.cc pc = .ok (.ifCond .ge off, 3)) (ht : (pc : Int) + off = (tgt : Int)) (ha : a < 2 ^ 31) (kt : True → J l I tgt lv r M k n out)  : J l I pc lv (.int (nI a) :: r) M k n out :=
  J.if_ge hd ht (fun _ => kt trivial) (fun h => (h (nI_pos' ha)).elim)
theorem J.if_gtN {a : Nat} {off : Int} {tgt : Nat} {r : List Value} (hd : decode I.cc pc = .ok (.ifCond .gt off, 3)) (ht : (pc : Int) + off = (tgt : Int)) (ha : a < 2 ^ 31) (kt : 0 < a → J l I tgt lv r M k n out) (kf : a = 0 → J l I (pc + 3) lv r M k n out) : J l I pc lv (.int (nI a) :: r) M k n out :=
  J.if_gt hd ht (fun h => kt (Nat.pos_of_ne_zero fun q => by rw [q, nI_0] at h; exact absurd h (by decide))) (fun h => kf (Nat.eq_zero_of_not_pos fun q => h (by have := nI_lt q ha; rwa [nI_0] at this)))
theorem J.if_leN {a : Nat} {off : Int} {tgt : Nat} {r : List Value} (hd : decode I.cc pc = .ok (.ifCond .le off, 3)) (ht : (pc : Int) + off = (tgt : Int)) (ha : a < 2 ^ 31) (kt : a = 0 → J l I tgt lv r M k n out) (kf : 0 < a → J l I (pc + 3) lv r M k n out) : J l I pc lv (.int (nI a) :: r) M k n out :=
  J.if_le hd ht (fun h => kt (Nat.eq_zero_of_not_pos fun q => nI_nle q ha h)) (fun h => kf (Nat.pos_of_ne_zero fun q => h (by rw [q, nI_0]; decide)))
end NATS
