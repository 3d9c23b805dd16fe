section
-- ===== PART A: goes FIRST, ahead of the names: the tables' words, and 'selects' of the private methods out of them =====
/-- a private method of a class that the tables say can be made, by its rows of tables_1 -/
def lw_okq (q : MethodName × Nat) : Prop := (q.1.cls ≠ "java/lang/invoke/MethodHandle" ∧ q.1.cls ≠ "java/lang/invoke/VarHandle") ∧ Cond.instantiable q.1.cls q.2 ∈ tables_1 ∧ Cond.privateMethod q.1 ∈ tables_1 ∧ Cond.instanceMethod q.1 ∈ tables_1
theorem lw_p0 : lw_okq (⟨"StripeVault", "repairStripe", "(I)I"⟩, 7) := ⟨⟨by decide +kernel, by decide +kernel⟩, List.mem_of_getElem? (i := 18) (by decide +kernel), List.mem_of_getElem? (i := 158) (by decide +kernel), List.mem_of_getElem? (i := 159) (by decide +kernel)⟩
theorem lw_p1 : lw_okq (⟨"StripeVault", "isGone", "(I)Z"⟩, 7) := ⟨⟨by decide +kernel, by decide +kernel⟩, List.mem_of_getElem? (i := 18) (by decide +kernel), List.mem_of_getElem? (i := 162) (by decide +kernel), List.mem_of_getElem? (i := 163) (by decide +kernel)⟩
theorem lw_p2 : lw_okq (⟨"StripeVault", "readStripe", "(I)V"⟩, 7) := ⟨⟨by decide +kernel, by decide +kernel⟩, List.mem_of_getElem? (i := 18) (by decide +kernel), List.mem_of_getElem? (i := 170) (by decide +kernel), List.mem_of_getElem? (i := 171) (by decide +kernel)⟩
theorem lw_p3 : lw_okq (⟨"StripeVault", "nextKept", "(II)I"⟩, 7) := ⟨⟨by decide +kernel, by decide +kernel⟩, List.mem_of_getElem? (i := 18) (by decide +kernel), List.mem_of_getElem? (i := 178) (by decide +kernel), List.mem_of_getElem? (i := 179) (by decide +kernel)⟩
theorem lw_p4 : lw_okq (⟨"StripeVault", "giveEquation", "(III)V"⟩, 7) := ⟨⟨by decide +kernel, by decide +kernel⟩, List.mem_of_getElem? (i := 18) (by decide +kernel), List.mem_of_getElem? (i := 182) (by decide +kernel), List.mem_of_getElem? (i := 183) (by decide +kernel)⟩
theorem lw_p5 : lw_okq (⟨"StripeVault$Coder", "multiplyLine", "(II)V"⟩, 6) := ⟨⟨by decide +kernel, by decide +kernel⟩, List.mem_of_getElem? (i := 35) (by decide +kernel), List.mem_of_getElem? (i := 201) (by decide +kernel), List.mem_of_getElem? (i := 202) (by decide +kernel)⟩
theorem lw_p6 : lw_okq (⟨"StripeVault$Coder", "addLine", "(III)V"⟩, 6) := ⟨⟨by decide +kernel, by decide +kernel⟩, List.mem_of_getElem? (i := 35) (by decide +kernel), List.mem_of_getElem? (i := 206) (by decide +kernel), List.mem_of_getElem? (i := 207) (by decide +kernel)⟩
theorem lw_p7 : lw_okq (⟨"StripeVault", "placeShard", "(II)Z"⟩, 7) := ⟨⟨by decide +kernel, by decide +kernel⟩, List.mem_of_getElem? (i := 18) (by decide +kernel), List.mem_of_getElem? (i := 210) (by decide +kernel), List.mem_of_getElem? (i := 211) (by decide +kernel)⟩
theorem lw_p8 : lw_okq (⟨"StripeVault", "roomiestDiskFor", "(I)I"⟩, 7) := ⟨⟨by decide +kernel, by decide +kernel⟩, List.mem_of_getElem? (i := 18) (by decide +kernel), List.mem_of_getElem? (i := 214) (by decide +kernel), List.mem_of_getElem? (i := 215) (by decide +kernel)⟩
theorem lw_p9 : lw_okq (⟨"java/lang/Throwable", "fillInStackTrace", "(I)Ljava/lang/Throwable;"⟩, 6) := ⟨⟨by decide +kernel, by decide +kernel⟩, List.mem_of_getElem? (i := 326) (by decide +kernel), List.mem_of_getElem? (i := 324) (by decide +kernel), List.mem_of_getElem? (i := 325) (by decide +kernel)⟩
theorem lw_p10 : lw_okq (⟨"StripeVault", "placeDraft", "(I)Z"⟩, 7) := ⟨⟨by decide +kernel, by decide +kernel⟩, List.mem_of_getElem? (i := 18) (by decide +kernel), List.mem_of_getElem? (i := 355) (by decide +kernel), List.mem_of_getElem? (i := 356) (by decide +kernel)⟩
theorem lw_p11 : lw_okq (⟨"StripeVault", "takeDataFromDraft", "(I)V"⟩, 7) := ⟨⟨by decide +kernel, by decide +kernel⟩, List.mem_of_getElem? (i := 18) (by decide +kernel), List.mem_of_getElem? (i := 359) (by decide +kernel), List.mem_of_getElem? (i := 360) (by decide +kernel)⟩
theorem lw_p12 : lw_okq (⟨"StripeVault", "releaseObject", "(I)I"⟩, 7) := ⟨⟨by decide +kernel, by decide +kernel⟩, List.mem_of_getElem? (i := 18) (by decide +kernel), List.mem_of_getElem? (i := 363) (by decide +kernel), List.mem_of_getElem? (i := 364) (by decide +kernel)⟩
theorem lw_p13 : lw_okq (⟨"StripeVault", "requireObject", "(I)V"⟩, 7) := ⟨⟨by decide +kernel, by decide +kernel⟩, List.mem_of_getElem? (i := 18) (by decide +kernel), List.mem_of_getElem? (i := 398) (by decide +kernel), List.mem_of_getElem? (i := 399) (by decide +kernel)⟩
theorem lw_p14 : lw_okq (⟨"StripeVault", "hasGoneStripe", "(I)Z"⟩, 7) := ⟨⟨by decide +kernel, by decide +kernel⟩, List.mem_of_getElem? (i := 18) (by decide +kernel), List.mem_of_getElem? (i := 424) (by decide +kernel), List.mem_of_getElem? (i := 425) (by decide +kernel)⟩
theorem lw_p15 : lw_okq (⟨"StripeVault", "copyDataToOutput", "(I)V"⟩, 7) := ⟨⟨by decide +kernel, by decide +kernel⟩, List.mem_of_getElem? (i := 18) (by decide +kernel), List.mem_of_getElem? (i := 428) (by decide +kernel), List.mem_of_getElem? (i := 429) (by decide +kernel)⟩
def lw_privs_1 : List (MethodName × Nat) := [(⟨"StripeVault", "repairStripe", "(I)I"⟩, 7), (⟨"StripeVault", "isGone", "(I)Z"⟩, 7), (⟨"StripeVault", "readStripe", "(I)V"⟩, 7), (⟨"StripeVault", "nextKept", "(II)I"⟩, 7), (⟨"StripeVault", "giveEquation", "(III)V"⟩, 7), (⟨"StripeVault$Coder", "multiplyLine", "(II)V"⟩, 6), (⟨"StripeVault$Coder", "addLine", "(III)V"⟩, 6), (⟨"StripeVault", "placeShard", "(II)Z"⟩, 7), (⟨"StripeVault", "roomiestDiskFor", "(I)I"⟩, 7), (⟨"java/lang/Throwable", "fillInStackTrace", "(I)Ljava/lang/Throwable;"⟩, 6), (⟨"StripeVault", "placeDraft", "(I)Z"⟩, 7), (⟨"StripeVault", "takeDataFromDraft", "(I)V"⟩, 7), (⟨"StripeVault", "releaseObject", "(I)I"⟩, 7), (⟨"StripeVault", "requireObject", "(I)V"⟩, 7), (⟨"StripeVault", "hasGoneStripe", "(I)Z"⟩, 7), (⟨"StripeVault", "copyDataToOutput", "(I)V"⟩, 7)]
theorem lw_r1 : ∀ q ∈ lw_privs_1, lw_okq q := List.forall_mem_cons.mpr ⟨lw_p0, List.forall_mem_cons.mpr ⟨lw_p1, List.forall_mem_cons.mpr ⟨lw_p2, List.forall_mem_cons.mpr ⟨lw_p3, List.forall_mem_cons.mpr ⟨lw_p4, List.forall_mem_cons.mpr ⟨lw_p5, List.forall_mem_cons.mpr ⟨lw_p6, List.forall_mem_cons.mpr ⟨lw_p7, List.forall_mem_cons.mpr ⟨lw_p8, List.forall_mem_cons.mpr ⟨lw_p9, List.forall_mem_cons.mpr ⟨lw_p10, List.forall_mem_cons.mpr ⟨lw_p11, List.forall_mem_cons.mpr ⟨lw_p12, List.forall_mem_cons.mpr ⟨lw_p13, List.forall_mem_cons.mpr ⟨lw_p14, List.forall_mem_cons.mpr ⟨lw_p15, fun _ h => absurd h List.not_mem_nil⟩⟩⟩⟩⟩⟩⟩⟩⟩⟩⟩⟩⟩⟩⟩⟩
theorem lw_p16 : lw_okq (⟨"StripeVault", "requireDisk", "(I)V"⟩, 7) := ⟨⟨by decide +kernel, by decide +kernel⟩, List.mem_of_getElem? (i := 18) (by decide +kernel), List.mem_of_getElem? (i := 462) (by decide +kernel), List.mem_of_getElem? (i := 463) (by decide +kernel)⟩
theorem lw_p17 : lw_okq (⟨"StripeVault", "hasWrongShard", "(I)Z"⟩, 7) := ⟨⟨by decide +kernel, by decide +kernel⟩, List.mem_of_getElem? (i := 18) (by decide +kernel), List.mem_of_getElem? (i := 496) (by decide +kernel), List.mem_of_getElem? (i := 497) (by decide +kernel)⟩
theorem lw_p18 : lw_okq (⟨"StripeVault", "isAsWorkedOut", "(II)Z"⟩, 7) := ⟨⟨by decide +kernel, by decide +kernel⟩, List.mem_of_getElem? (i := 18) (by decide +kernel), List.mem_of_getElem? (i := 500) (by decide +kernel), List.mem_of_getElem? (i := 501) (by decide +kernel)⟩
theorem lw_p19 : lw_okq (⟨"StripeVault", "requireStoredByte", "(III)V"⟩, 7) := ⟨⟨by decide +kernel, by decide +kernel⟩, List.mem_of_getElem? (i := 18) (by decide +kernel), List.mem_of_getElem? (i := 511) (by decide +kernel), List.mem_of_getElem? (i := 512) (by decide +kernel)⟩
theorem lw_p20 : lw_okq (⟨"StripeVaultModel", "shards", "()I"⟩, 16) := ⟨⟨by decide +kernel, by decide +kernel⟩, List.mem_of_getElem? (i := 561) (by decide +kernel), List.mem_of_getElem? (i := 567) (by decide +kernel), List.mem_of_getElem? (i := 568) (by decide +kernel)⟩
theorem lw_p21 : lw_okq (⟨"StripeVaultModel", "clear", "(I)I"⟩, 16) := ⟨⟨by decide +kernel, by decide +kernel⟩, List.mem_of_getElem? (i := 561) (by decide +kernel), List.mem_of_getElem? (i := 646) (by decide +kernel), List.mem_of_getElem? (i := 647) (by decide +kernel)⟩
theorem lw_p22 : lw_okq (⟨"StripeVaultModel", "stripesOf", "(I)I"⟩, 16) := ⟨⟨by decide +kernel, by decide +kernel⟩, List.mem_of_getElem? (i := 561) (by decide +kernel), List.mem_of_getElem? (i := 650) (by decide +kernel), List.mem_of_getElem? (i := 651) (by decide +kernel)⟩
theorem lw_p23 : lw_okq (⟨"StripeVaultModel", "lay", "(III)Z"⟩, 16) := ⟨⟨by decide +kernel, by decide +kernel⟩, List.mem_of_getElem? (i := 561) (by decide +kernel), List.mem_of_getElem? (i := 654) (by decide +kernel), List.mem_of_getElem? (i := 655) (by decide +kernel)⟩
theorem lw_p24 : lw_okq (⟨"StripeVaultModel", "slotFor", "(II)I"⟩, 16) := ⟨⟨by decide +kernel, by decide +kernel⟩, List.mem_of_getElem? (i := 561) (by decide +kernel), List.mem_of_getElem? (i := 658) (by decide +kernel), List.mem_of_getElem? (i := 659) (by decide +kernel)⟩
theorem lw_p25 : lw_okq (⟨"StripeVaultModel", "free", "(I)I"⟩, 16) := ⟨⟨by decide +kernel, by decide +kernel⟩, List.mem_of_getElem? (i := 561) (by decide +kernel), List.mem_of_getElem? (i := 662) (by decide +kernel), List.mem_of_getElem? (i := 663) (by decide +kernel)⟩
theorem lw_p26 : lw_okq (⟨"StripeVaultModel", "place", "(III)I"⟩, 16) := ⟨⟨by decide +kernel, by decide +kernel⟩, List.mem_of_getElem? (i := 561) (by decide +kernel), List.mem_of_getElem? (i := 666) (by decide +kernel), List.mem_of_getElem? (i := 667) (by decide +kernel)⟩
theorem lw_p27 : lw_okq (⟨"StripeVaultModel", "worked", "(II)I"⟩, 16) := ⟨⟨by decide +kernel, by decide +kernel⟩, List.mem_of_getElem? (i := 561) (by decide +kernel), List.mem_of_getElem? (i := 670) (by decide +kernel), List.mem_of_getElem? (i := 671) (by decide +kernel)⟩
theorem lw_p28 : lw_okq (⟨"StripeVaultModel", "factor", "(II)I"⟩, 16) := ⟨⟨by decide +kernel, by decide +kernel⟩, List.mem_of_getElem? (i := 561) (by decide +kernel), List.mem_of_getElem? (i := 674) (by decide +kernel), List.mem_of_getElem? (i := 675) (by decide +kernel)⟩
theorem lw_p29 : lw_okq (⟨"StripeVaultModel", "isThere", "(I)Z"⟩, 16) := ⟨⟨by decide +kernel, by decide +kernel⟩, List.mem_of_getElem? (i := 561) (by decide +kernel), List.mem_of_getElem? (i := 682) (by decide +kernel), List.mem_of_getElem? (i := 683) (by decide +kernel)⟩
theorem lw_p30 : lw_okq (⟨"StripeVaultModel", "lost", "(II)I"⟩, 16) := ⟨⟨by decide +kernel, by decide +kernel⟩, List.mem_of_getElem? (i := 561) (by decide +kernel), List.mem_of_getElem? (i := 690) (by decide +kernel), List.mem_of_getElem? (i := 691) (by decide +kernel)⟩
theorem lw_p31 : lw_okq (⟨"StripeVaultModel", "readStripe", "(II)V"⟩, 16) := ⟨⟨by decide +kernel, by decide +kernel⟩, List.mem_of_getElem? (i := 561) (by decide +kernel), List.mem_of_getElem? (i := 694) (by decide +kernel), List.mem_of_getElem? (i := 695) (by decide +kernel)⟩
def lw_privs_2 : List (MethodName × Nat) := [(⟨"StripeVault", "requireDisk", "(I)V"⟩, 7), (⟨"StripeVault", "hasWrongShard", "(I)Z"⟩, 7), (⟨"StripeVault", "isAsWorkedOut", "(II)Z"⟩, 7), (⟨"StripeVault", "requireStoredByte", "(III)V"⟩, 7), (⟨"StripeVaultModel", "shards", "()I"⟩, 16), (⟨"StripeVaultModel", "clear", "(I)I"⟩, 16), (⟨"StripeVaultModel", "stripesOf", "(I)I"⟩, 16), (⟨"StripeVaultModel", "lay", "(III)Z"⟩, 16), (⟨"StripeVaultModel", "slotFor", "(II)I"⟩, 16), (⟨"StripeVaultModel", "free", "(I)I"⟩, 16), (⟨"StripeVaultModel", "place", "(III)I"⟩, 16), (⟨"StripeVaultModel", "worked", "(II)I"⟩, 16), (⟨"StripeVaultModel", "factor", "(II)I"⟩, 16), (⟨"StripeVaultModel", "isThere", "(I)Z"⟩, 16), (⟨"StripeVaultModel", "lost", "(II)I"⟩, 16), (⟨"StripeVaultModel", "readStripe", "(II)V"⟩, 16)]
theorem lw_r2 : ∀ q ∈ lw_privs_2, lw_okq q := List.forall_mem_cons.mpr ⟨lw_p16, List.forall_mem_cons.mpr ⟨lw_p17, List.forall_mem_cons.mpr ⟨lw_p18, List.forall_mem_cons.mpr ⟨lw_p19, List.forall_mem_cons.mpr ⟨lw_p20, List.forall_mem_cons.mpr ⟨lw_p21, List.forall_mem_cons.mpr ⟨lw_p22, List.forall_mem_cons.mpr ⟨lw_p23, List.forall_mem_cons.mpr ⟨lw_p24, List.forall_mem_cons.mpr ⟨lw_p25, List.forall_mem_cons.mpr ⟨lw_p26, List.forall_mem_cons.mpr ⟨lw_p27, List.forall_mem_cons.mpr ⟨lw_p28, List.forall_mem_cons.mpr ⟨lw_p29, List.forall_mem_cons.mpr ⟨lw_p30, List.forall_mem_cons.mpr ⟨lw_p31, fun _ h => absurd h List.not_mem_nil⟩⟩⟩⟩⟩⟩⟩⟩⟩⟩⟩⟩⟩⟩⟩⟩
theorem lw_p32 : lw_okq (⟨"StripeVaultModel", "writeRows", "(III)V"⟩, 16) := ⟨⟨by decide +kernel, by decide +kernel⟩, List.mem_of_getElem? (i := 561) (by decide +kernel), List.mem_of_getElem? (i := 698) (by decide +kernel), List.mem_of_getElem? (i := 699) (by decide +kernel)⟩
theorem lw_p33 : lw_okq (⟨"StripeVaultModel", "solve", "()V"⟩, 16) := ⟨⟨by decide +kernel, by decide +kernel⟩, List.mem_of_getElem? (i := 561) (by decide +kernel), List.mem_of_getElem? (i := 702) (by decide +kernel), List.mem_of_getElem? (i := 703) (by decide +kernel)⟩
theorem lw_p34 : lw_okq (⟨"StripeVaultModel", "refusal", "(III)I"⟩, 16) := ⟨⟨by decide +kernel, by decide +kernel⟩, List.mem_of_getElem? (i := 561) (by decide +kernel), List.mem_of_getElem? (i := 733) (by decide +kernel), List.mem_of_getElem? (i := 734) (by decide +kernel)⟩
def lw_privs_3 : List (MethodName × Nat) := [(⟨"StripeVaultModel", "writeRows", "(III)V"⟩, 16), (⟨"StripeVaultModel", "solve", "()V"⟩, 16), (⟨"StripeVaultModel", "refusal", "(III)I"⟩, 16)]
theorem lw_r3 : ∀ q ∈ lw_privs_3, lw_okq q := List.forall_mem_cons.mpr ⟨lw_p32, List.forall_mem_cons.mpr ⟨lw_p33, List.forall_mem_cons.mpr ⟨lw_p34, fun _ h => absurd h List.not_mem_nil⟩⟩⟩
def lw_privs : List (MethodName × Nat) := lw_privs_1 ++ (lw_privs_2 ++ (lw_privs_3))
def lw_tbl : List Cond := k2_sels lw_privs ++ tables_1
theorem lw_privs_ok : ∀ q ∈ lw_privs, lw_okq q := by
  show ∀ q ∈ lw_privs_1 ++ (lw_privs_2 ++ (lw_privs_3)), lw_okq q
  exact List.forall_mem_append.mpr ⟨lw_r1, List.forall_mem_append.mpr ⟨lw_r2, lw_r3⟩⟩
end
section
/-! Own names, printed by wip/whole/gen/names.py: classes, fields, methods, decode rows -/
def NV : String := "StripeVault"
def NC : String := "StripeVault$Coder"
def ND : String := "StripeVault$Disks"
def NG : String := "StripeVault$Catalogue"
def NR : String := "StripeVaultModel"
def NL : String := "StripeVaultLaw"
def NA : String := "java/util/Arrays"
def TV : u_T := fun k => match k with
  | 0 => ("StripeVault", "coder", "LStripeVault$Coder;", true)
  | 1 => ("StripeVault", "disks", "LStripeVault$Disks;", true)
  | 2 => ("StripeVault", "catalogue", "LStripeVault$Catalogue;", true)
  | 3 => ("StripeVault", "draft", "[I", true)
  | 4 => ("StripeVault", "draftLength", "I", false)
  | 5 => ("StripeVault", "output", "[I", true)
  | _ => ("StripeVault", "outputLength", "I", false)
def tyV : Nat → FieldType := fun k => match k with
  | 0 => .object "StripeVault$Coder"
  | 1 => .object "StripeVault$Disks"
  | 2 => .object "StripeVault$Catalogue"
  | 3 => .array .int
  | 4 => .int
  | 5 => .array .int
  | _ => .int
theorem nmV : ∀ a, a < 7 → ∀ b, b < 7 → a ≠ b → (TV a).2.1 ≠ (TV b).2.1 := by decide +kernel
theorem tokV : ∀ k, k < 7 → parseFieldDescriptor (TV k).2.2.1 = some (tyV k) := by decide +kernel
def TC : u_T := fun k => match k with
  | 0 => ("StripeVault$Coder", "dataShards", "I", true)
  | 1 => ("StripeVault$Coder", "shards", "I", true)
  | 2 => ("StripeVault$Coder", "dataBytes", "I", true)
  | 3 => ("StripeVault$Coder", "data", "[I", true)
  | 4 => ("StripeVault$Coder", "factors", "[I", true)
  | _ => ("StripeVault$Coder", "equations", "[I", true)
def tyC : Nat → FieldType := fun k => match k with
  | 0 => .int
  | 1 => .int
  | 2 => .int
  | 3 => .array .int
  | 4 => .array .int
  | _ => .array .int
theorem nmC : ∀ a, a < 6 → ∀ b, b < 6 → a ≠ b → (TC a).2.1 ≠ (TC b).2.1 := by decide +kernel
theorem tokC : ∀ k, k < 6 → parseFieldDescriptor (TC k).2.2.1 = some (tyC k) := by decide +kernel
def TD : u_T := fun k => match k with
  | 0 => ("StripeVault$Disks", "alive", "[Z", true)
  | 1 => ("StripeVault$Disks", "freeSlots", "[I", true)
  | 2 => ("StripeVault$Disks", "taken", "[Z", true)
  | _ => ("StripeVault$Disks", "bytes", "[I", true)
def tyD : Nat → FieldType := fun k => match k with
  | 0 => .array .boolean
  | 1 => .array .int
  | 2 => .array .boolean
  | _ => .array .int
theorem nmD : ∀ a, a < 4 → ∀ b, b < 4 → a ≠ b → (TD a).2.1 ≠ (TD b).2.1 := by decide +kernel
theorem tokD : ∀ k, k < 4 → parseFieldDescriptor (TD k).2.2.1 = some (tyD k) := by decide +kernel
def TG : u_T := fun k => match k with
  | 0 => ("StripeVault$Catalogue", "shards", "I", true)
  | 1 => ("StripeVault$Catalogue", "stripeBytes", "I", true)
  | 2 => ("StripeVault$Catalogue", "lengths", "[I", true)
  | _ => ("StripeVault$Catalogue", "places", "[I", true)
def tyG : Nat → FieldType := fun k => match k with
  | 0 => .int
  | 1 => .int
  | 2 => .array .int
  | _ => .array .int
theorem nmG : ∀ a, a < 4 → ∀ b, b < 4 → a ≠ b → (TG a).2.1 ≠ (TG b).2.1 := by decide +kernel
theorem tokG : ∀ k, k < 4 → parseFieldDescriptor (TG k).2.2.1 = some (tyG k) := by decide +kernel
def TR : u_T := fun k => match k with
  | 0 => ("StripeVaultModel", "data", "I", true)
  | 1 => ("StripeVaultModel", "more", "I", true)
  | 2 => ("StripeVaultModel", "code", "I", false)
  | 3 => ("StripeVaultModel", "draft", "[I", true)
  | 4 => ("StripeVaultModel", "size", "I", false)
  | 5 => ("StripeVaultModel", "alive", "[Z", true)
  | 6 => ("StripeVaultModel", "used", "[Z", true)
  | 7 => ("StripeVaultModel", "bytes", "[I", true)
  | 8 => ("StripeVaultModel", "lengths", "[I", true)
  | 9 => ("StripeVaultModel", "places", "[I", true)
  | 10 => ("StripeVaultModel", "factors", "[I", true)
  | 11 => ("StripeVaultModel", "outSize", "I", false)
  | 12 => ("StripeVaultModel", "out", "[I", true)
  | 13 => ("StripeVaultModel", "read", "[I", true)
  | 14 => ("StripeVaultModel", "stripe", "[I", true)
  | _ => ("StripeVaultModel", "rows", "[I", true)
def tyR : Nat → FieldType := fun k => match k with
  | 0 => .int
  | 1 => .int
  | 2 => .int
  | 3 => .array .int
  | 4 => .int
  | 5 => .array .boolean
  | 6 => .array .boolean
  | 7 => .array .int
  | 8 => .array .int
  | 9 => .array .int
  | 10 => .array .int
  | 11 => .int
  | 12 => .array .int
  | 13 => .array .int
  | 14 => .array .int
  | _ => .array .int
theorem nmR : ∀ a, a < 16 → ∀ b, b < 16 → a ≠ b → (TR a).2.1 ≠ (TR b).2.1 := by decide +kernel
theorem tokR : ∀ k, k < 16 → parseFieldDescriptor (TR k).2.2.1 = some (tyR k) := by decide +kernel
abbrev vwCl : List vw_C := [(NV, TV, 7), (NC, TC, 6), (ND, TD, 4), (NG, TG, 4), (NR, TR, 16)]
abbrev c_V_init : ByteArray := prog_1_method_1_code
def y_V_init : MethodName := ⟨"StripeVault", "<init>", "(II)V"⟩
abbrev c_V_put : ByteArray := prog_1_method_2_code
def y_V_put : MethodName := ⟨"StripeVault", "put", "(IJ)Z"⟩
abbrev c_V_scrap : ByteArray := prog_1_method_3_code
def y_V_scrap : MethodName := ⟨"StripeVault", "scrap", "()V"⟩
abbrev c_V_store : ByteArray := prog_1_method_4_code
def y_V_store : MethodName := ⟨"StripeVault", "store", "(I)I"⟩
abbrev c_V_drop : ByteArray := prog_1_method_5_code
def y_V_drop : MethodName := ⟨"StripeVault", "drop", "(I)I"⟩
abbrev c_V_get : ByteArray := prog_1_method_6_code
def y_V_get : MethodName := ⟨"StripeVault", "get", "(I)I"⟩
abbrev c_V_at : ByteArray := prog_1_method_7_code
def y_V_at : MethodName := ⟨"StripeVault", "at", "(I)I"⟩
abbrev c_V_fail : ByteArray := prog_1_method_8_code
def y_V_fail : MethodName := ⟨"StripeVault", "fail", "(I)I"⟩
abbrev c_V_renew : ByteArray := prog_1_method_9_code
def y_V_renew : MethodName := ⟨"StripeVault", "renew", "(I)I"⟩
abbrev c_V_repair : ByteArray := prog_1_method_10_code
def y_V_repair : MethodName := ⟨"StripeVault", "repair", "()I"⟩
abbrev c_V_check : ByteArray := prog_1_method_11_code
def y_V_check : MethodName := ⟨"StripeVault", "check", "(I)I"⟩
abbrev c_V_harm : ByteArray := prog_1_method_12_code
def y_V_harm : MethodName := ⟨"StripeVault", "harm", "(IIII)I"⟩
abbrev c_V_stored : ByteArray := prog_1_method_13_code
def y_V_stored : MethodName := ⟨"StripeVault", "stored", "(III)I"⟩
abbrev c_V_where : ByteArray := prog_1_method_14_code
def y_V_where : MethodName := ⟨"StripeVault", "where", "(III)I"⟩
abbrev c_V_length : ByteArray := prog_1_method_15_code
def y_V_length : MethodName := ⟨"StripeVault", "length", "(I)I"⟩
abbrev c_V_room : ByteArray := prog_1_method_16_code
def y_V_room : MethodName := ⟨"StripeVault", "room", "(I)I"⟩
abbrev c_V_product : ByteArray := prog_1_method_17_code
def y_V_product : MethodName := ⟨"StripeVault", "product", "(II)I"⟩
abbrev c_V_nearest : ByteArray := prog_1_method_18_code
def y_V_nearest : MethodName := ⟨"StripeVault", "nearest", "(II)I"⟩
abbrev c_V_isByte : ByteArray := prog_1_method_19_code
def y_V_isByte : MethodName := ⟨"StripeVault", "isByte", "(I)Z"⟩
abbrev c_V_isObjectNumber : ByteArray := prog_1_method_20_code
def y_V_isObjectNumber : MethodName := ⟨"StripeVault", "isObjectNumber", "(I)Z"⟩
abbrev c_V_isDiskNumber : ByteArray := prog_1_method_21_code
def y_V_isDiskNumber : MethodName := ⟨"StripeVault", "isDiskNumber", "(I)Z"⟩
abbrev c_V_placeAt : ByteArray := prog_1_method_22_code
def y_V_placeAt : MethodName := ⟨"StripeVault", "placeAt", "(II)I"⟩
abbrev c_V_times : ByteArray := prog_1_method_23_code
def y_V_times : MethodName := ⟨"StripeVault", "times", "(II)I"⟩
abbrev c_V_inverse : ByteArray := prog_1_method_24_code
def y_V_inverse : MethodName := ⟨"StripeVault", "inverse", "(I)I"⟩
abbrev c_V_requireObject : ByteArray := prog_1_method_25_code
def y_V_requireObject : MethodName := ⟨"StripeVault", "requireObject", "(I)V"⟩
abbrev c_V_requireDisk : ByteArray := prog_1_method_26_code
def y_V_requireDisk : MethodName := ⟨"StripeVault", "requireDisk", "(I)V"⟩
abbrev c_V_requireStoredByte : ByteArray := prog_1_method_27_code
def y_V_requireStoredByte : MethodName := ⟨"StripeVault", "requireStoredByte", "(III)V"⟩
abbrev c_V_placeDraft : ByteArray := prog_1_method_28_code
def y_V_placeDraft : MethodName := ⟨"StripeVault", "placeDraft", "(I)Z"⟩
abbrev c_V_takeDataFromDraft : ByteArray := prog_1_method_29_code
def y_V_takeDataFromDraft : MethodName := ⟨"StripeVault", "takeDataFromDraft", "(I)V"⟩
abbrev c_V_copyDataToOutput : ByteArray := prog_1_method_30_code
def y_V_copyDataToOutput : MethodName := ⟨"StripeVault", "copyDataToOutput", "(I)V"⟩
abbrev c_V_placeShard : ByteArray := prog_1_method_31_code
def y_V_placeShard : MethodName := ⟨"StripeVault", "placeShard", "(II)Z"⟩
abbrev c_V_roomiestDiskFor : ByteArray := prog_1_method_32_code
def y_V_roomiestDiskFor : MethodName := ⟨"StripeVault", "roomiestDiskFor", "(I)I"⟩
abbrev c_V_releaseObject : ByteArray := prog_1_method_33_code
def y_V_releaseObject : MethodName := ⟨"StripeVault", "releaseObject", "(I)I"⟩
abbrev c_V_isGone : ByteArray := prog_1_method_34_code
def y_V_isGone : MethodName := ⟨"StripeVault", "isGone", "(I)Z"⟩
abbrev c_V_hasGoneStripe : ByteArray := prog_1_method_35_code
def y_V_hasGoneStripe : MethodName := ⟨"StripeVault", "hasGoneStripe", "(I)Z"⟩
abbrev c_V_readStripe : ByteArray := prog_1_method_36_code
def y_V_readStripe : MethodName := ⟨"StripeVault", "readStripe", "(I)V"⟩
abbrev c_V_nextKept : ByteArray := prog_1_method_37_code
def y_V_nextKept : MethodName := ⟨"StripeVault", "nextKept", "(II)I"⟩
abbrev c_V_giveEquation : ByteArray := prog_1_method_38_code
def y_V_giveEquation : MethodName := ⟨"StripeVault", "giveEquation", "(III)V"⟩
abbrev c_V_repairStripe : ByteArray := prog_1_method_39_code
def y_V_repairStripe : MethodName := ⟨"StripeVault", "repairStripe", "(I)I"⟩
abbrev c_V_hasWrongShard : ByteArray := prog_1_method_40_code
def y_V_hasWrongShard : MethodName := ⟨"StripeVault", "hasWrongShard", "(I)Z"⟩
abbrev c_V_isAsWorkedOut : ByteArray := prog_1_method_41_code
def y_V_isAsWorkedOut : MethodName := ⟨"StripeVault", "isAsWorkedOut", "(II)Z"⟩
abbrev c_R_init : ByteArray := prog_6_method_1_code
def y_R_init : MethodName := ⟨"StripeVaultModel", "<init>", "(II)V"⟩
abbrev c_R_thrown : ByteArray := prog_6_method_2_code
def y_R_thrown : MethodName := ⟨"StripeVaultModel", "thrown", "()I"⟩
abbrev c_R_put : ByteArray := prog_6_method_3_code
def y_R_put : MethodName := ⟨"StripeVaultModel", "put", "(IJ)Z"⟩
abbrev c_R_scrap : ByteArray := prog_6_method_4_code
def y_R_scrap : MethodName := ⟨"StripeVaultModel", "scrap", "()V"⟩
abbrev c_R_times : ByteArray := prog_6_method_5_code
def y_R_times : MethodName := ⟨"StripeVaultModel", "times", "(II)I"⟩
abbrev c_R_inverse : ByteArray := prog_6_method_6_code
def y_R_inverse : MethodName := ⟨"StripeVaultModel", "inverse", "(I)I"⟩
abbrev c_R_factor : ByteArray := prog_6_method_7_code
def y_R_factor : MethodName := ⟨"StripeVaultModel", "factor", "(II)I"⟩
abbrev c_R_shards : ByteArray := prog_6_method_8_code
def y_R_shards : MethodName := ⟨"StripeVaultModel", "shards", "()I"⟩
abbrev c_R_stripesOf : ByteArray := prog_6_method_9_code
def y_R_stripesOf : MethodName := ⟨"StripeVaultModel", "stripesOf", "(I)I"⟩
abbrev c_R_place : ByteArray := prog_6_method_10_code
def y_R_place : MethodName := ⟨"StripeVaultModel", "place", "(III)I"⟩
abbrev c_R_lost : ByteArray := prog_6_method_11_code
def y_R_lost : MethodName := ⟨"StripeVaultModel", "lost", "(II)I"⟩
abbrev c_R_worked : ByteArray := prog_6_method_12_code
def y_R_worked : MethodName := ⟨"StripeVaultModel", "worked", "(II)I"⟩
abbrev c_R_writeRows : ByteArray := prog_6_method_13_code
def y_R_writeRows : MethodName := ⟨"StripeVaultModel", "writeRows", "(III)V"⟩
abbrev c_R_solve : ByteArray := prog_6_method_14_code
def y_R_solve : MethodName := ⟨"StripeVaultModel", "solve", "()V"⟩
abbrev c_R_readStripe : ByteArray := prog_6_method_15_code
def y_R_readStripe : MethodName := ⟨"StripeVaultModel", "readStripe", "(II)V"⟩
abbrev c_R_free : ByteArray := prog_6_method_16_code
def y_R_free : MethodName := ⟨"StripeVaultModel", "free", "(I)I"⟩
abbrev c_R_slotFor : ByteArray := prog_6_method_17_code
def y_R_slotFor : MethodName := ⟨"StripeVaultModel", "slotFor", "(II)I"⟩
abbrev c_R_lay : ByteArray := prog_6_method_18_code
def y_R_lay : MethodName := ⟨"StripeVaultModel", "lay", "(III)Z"⟩
abbrev c_R_clear : ByteArray := prog_6_method_19_code
def y_R_clear : MethodName := ⟨"StripeVaultModel", "clear", "(I)I"⟩
abbrev c_R_isObject : ByteArray := prog_6_method_20_code
def y_R_isObject : MethodName := ⟨"StripeVaultModel", "isObject", "(I)Z"⟩
abbrev c_R_store : ByteArray := prog_6_method_21_code
def y_R_store : MethodName := ⟨"StripeVaultModel", "store", "(I)I"⟩
abbrev c_R_isThere : ByteArray := prog_6_method_22_code
def y_R_isThere : MethodName := ⟨"StripeVaultModel", "isThere", "(I)Z"⟩
abbrev c_R_drop : ByteArray := prog_6_method_23_code
def y_R_drop : MethodName := ⟨"StripeVaultModel", "drop", "(I)I"⟩
abbrev c_R_get : ByteArray := prog_6_method_24_code
def y_R_get : MethodName := ⟨"StripeVaultModel", "get", "(I)I"⟩
abbrev c_R_at : ByteArray := prog_6_method_25_code
def y_R_at : MethodName := ⟨"StripeVaultModel", "at", "(I)I"⟩
abbrev c_R_isDisk : ByteArray := prog_6_method_26_code
def y_R_isDisk : MethodName := ⟨"StripeVaultModel", "isDisk", "(I)Z"⟩
abbrev c_R_fail : ByteArray := prog_6_method_27_code
def y_R_fail : MethodName := ⟨"StripeVaultModel", "fail", "(I)I"⟩
abbrev c_R_renew : ByteArray := prog_6_method_28_code
def y_R_renew : MethodName := ⟨"StripeVaultModel", "renew", "(I)I"⟩
abbrev c_R_repair : ByteArray := prog_6_method_29_code
def y_R_repair : MethodName := ⟨"StripeVaultModel", "repair", "()I"⟩
abbrev c_R_check : ByteArray := prog_6_method_30_code
def y_R_check : MethodName := ⟨"StripeVaultModel", "check", "(I)I"⟩
abbrev c_R_refusal : ByteArray := prog_6_method_31_code
def y_R_refusal : MethodName := ⟨"StripeVaultModel", "refusal", "(III)I"⟩
abbrev c_R_harm : ByteArray := prog_6_method_32_code
def y_R_harm : MethodName := ⟨"StripeVaultModel", "harm", "(IIII)I"⟩
abbrev c_R_stored : ByteArray := prog_6_method_33_code
def y_R_stored : MethodName := ⟨"StripeVaultModel", "stored", "(III)I"⟩
abbrev c_R_where : ByteArray := prog_6_method_34_code
def y_R_where : MethodName := ⟨"StripeVaultModel", "where", "(III)I"⟩
abbrev c_R_length : ByteArray := prog_6_method_35_code
def y_R_length : MethodName := ⟨"StripeVaultModel", "length", "(I)I"⟩
abbrev c_R_room : ByteArray := prog_6_method_36_code
def y_R_room : MethodName := ⟨"StripeVaultModel", "room", "(I)I"⟩
abbrev c_R_product : ByteArray := prog_6_method_37_code
def y_R_product : MethodName := ⟨"StripeVaultModel", "product", "(II)I"⟩
abbrev c_G_init : ByteArray := prog_2_method_1_code
def y_G_init : MethodName := ⟨"StripeVault$Catalogue", "<init>", "(II)V"⟩
abbrev c_G_holds : ByteArray := prog_2_method_2_code
def y_G_holds : MethodName := ⟨"StripeVault$Catalogue", "holds", "(I)Z"⟩
abbrev c_G_lengthOf : ByteArray := prog_2_method_3_code
def y_G_lengthOf : MethodName := ⟨"StripeVault$Catalogue", "lengthOf", "(I)I"⟩
abbrev c_G_stripesOf : ByteArray := prog_2_method_4_code
def y_G_stripesOf : MethodName := ⟨"StripeVault$Catalogue", "stripesOf", "(I)I"⟩
abbrev c_G_enter : ByteArray := prog_2_method_5_code
def y_G_enter : MethodName := ⟨"StripeVault$Catalogue", "enter", "(II)V"⟩
abbrev c_G_strike : ByteArray := prog_2_method_6_code
def y_G_strike : MethodName := ⟨"StripeVault$Catalogue", "strike", "(I)V"⟩
abbrev c_G_rowOf : ByteArray := prog_2_method_7_code
def y_G_rowOf : MethodName := ⟨"StripeVault$Catalogue", "rowOf", "(II)I"⟩
abbrev c_G_placeOf : ByteArray := prog_2_method_8_code
def y_G_placeOf : MethodName := ⟨"StripeVault$Catalogue", "placeOf", "(II)I"⟩
abbrev c_G_setPlace : ByteArray := prog_2_method_9_code
def y_G_setPlace : MethodName := ⟨"StripeVault$Catalogue", "setPlace", "(III)V"⟩
abbrev c_G_countLost : ByteArray := prog_2_method_10_code
def y_G_countLost : MethodName := ⟨"StripeVault$Catalogue", "countLost", "(I)I"⟩
abbrev c_G_isOnDisk : ByteArray := prog_2_method_11_code
def y_G_isOnDisk : MethodName := ⟨"StripeVault$Catalogue", "isOnDisk", "(II)Z"⟩
abbrev c_G_loseDisk : ByteArray := prog_2_method_12_code
def y_G_loseDisk : MethodName := ⟨"StripeVault$Catalogue", "loseDisk", "(I)V"⟩
abbrev c_G_isPlaceOnDisk : ByteArray := prog_2_method_13_code
def y_G_isPlaceOnDisk : MethodName := ⟨"StripeVault$Catalogue", "isPlaceOnDisk", "(II)Z"⟩
abbrev c_C_init : ByteArray := prog_3_method_1_code
def y_C_init : MethodName := ⟨"StripeVault$Coder", "<init>", "(II)V"⟩
abbrev c_C_factor : ByteArray := prog_3_method_2_code
def y_C_factor : MethodName := ⟨"StripeVault$Coder", "factor", "(III)I"⟩
abbrev c_C_shardByte : ByteArray := prog_3_method_3_code
def y_C_shardByte : MethodName := ⟨"StripeVault$Coder", "shardByte", "(II)I"⟩
abbrev c_C_setEquation : ByteArray := prog_3_method_4_code
def y_C_setEquation : MethodName := ⟨"StripeVault$Coder", "setEquation", "(II)V"⟩
abbrev c_C_solve : ByteArray := prog_3_method_5_code
def y_C_solve : MethodName := ⟨"StripeVault$Coder", "solve", "()V"⟩
abbrev c_C_multiplyLine : ByteArray := prog_3_method_6_code
def y_C_multiplyLine : MethodName := ⟨"StripeVault$Coder", "multiplyLine", "(II)V"⟩
abbrev c_C_addLine : ByteArray := prog_3_method_7_code
def y_C_addLine : MethodName := ⟨"StripeVault$Coder", "addLine", "(III)V"⟩
abbrev c_D_init : ByteArray := prog_4_method_1_code
def y_D_init : MethodName := ⟨"StripeVault$Disks", "<init>", "()V"⟩
abbrev c_D_isAlive : ByteArray := prog_4_method_2_code
def y_D_isAlive : MethodName := ⟨"StripeVault$Disks", "isAlive", "(I)Z"⟩
abbrev c_D_countAlive : ByteArray := prog_4_method_3_code
def y_D_countAlive : MethodName := ⟨"StripeVault$Disks", "countAlive", "()I"⟩
abbrev c_D_freeSlotsOf : ByteArray := prog_4_method_4_code
def y_D_freeSlotsOf : MethodName := ⟨"StripeVault$Disks", "freeSlotsOf", "(I)I"⟩
abbrev c_D_stop : ByteArray := prog_4_method_5_code
def y_D_stop : MethodName := ⟨"StripeVault$Disks", "stop", "(I)V"⟩
abbrev c_D_start : ByteArray := prog_4_method_6_code
def y_D_start : MethodName := ⟨"StripeVault$Disks", "start", "(I)V"⟩
abbrev c_D_isTaken : ByteArray := prog_4_method_7_code
def y_D_isTaken : MethodName := ⟨"StripeVault$Disks", "isTaken", "(I)Z"⟩
abbrev c_D_takeSlot : ByteArray := prog_4_method_8_code
def y_D_takeSlot : MethodName := ⟨"StripeVault$Disks", "takeSlot", "(I)I"⟩
abbrev c_D_releaseSlot : ByteArray := prog_4_method_9_code
def y_D_releaseSlot : MethodName := ⟨"StripeVault$Disks", "releaseSlot", "(I)V"⟩
abbrev c_D_byteAt : ByteArray := prog_4_method_10_code
def y_D_byteAt : MethodName := ⟨"StripeVault$Disks", "byteAt", "(II)I"⟩
abbrev c_D_setByte : ByteArray := prog_4_method_11_code
def y_D_setByte : MethodName := ⟨"StripeVault$Disks", "setByte", "(III)V"⟩
abbrev c_L_cell : ByteArray := method_2_code
def y_L_cell : MethodName := ⟨"StripeVaultLaw", "cell", "([II)I"⟩
abbrev c_L_store : ByteArray := method_3_code
def y_L_store : MethodName := ⟨"StripeVaultLaw", "store", "(LStripeVault;I[J)I"⟩
abbrev c_L_drop : ByteArray := method_4_code
def y_L_drop : MethodName := ⟨"StripeVaultLaw", "drop", "(LStripeVault;I[J)I"⟩
abbrev c_L_get : ByteArray := method_5_code
def y_L_get : MethodName := ⟨"StripeVaultLaw", "get", "(LStripeVault;I[J)I"⟩
abbrev c_L_at : ByteArray := method_6_code
def y_L_at : MethodName := ⟨"StripeVaultLaw", "at", "(LStripeVault;I[J)I"⟩
abbrev c_L_fail : ByteArray := method_7_code
def y_L_fail : MethodName := ⟨"StripeVaultLaw", "fail", "(LStripeVault;I[J)I"⟩
abbrev c_L_renew : ByteArray := method_8_code
def y_L_renew : MethodName := ⟨"StripeVaultLaw", "renew", "(LStripeVault;I[J)I"⟩
abbrev c_L_check : ByteArray := method_9_code
def y_L_check : MethodName := ⟨"StripeVaultLaw", "check", "(LStripeVault;I[J)I"⟩
abbrev c_L_harm : ByteArray := method_10_code
def y_L_harm : MethodName := ⟨"StripeVaultLaw", "harm", "(LStripeVault;IIII[J)I"⟩
abbrev c_L_stored : ByteArray := method_11_code
def y_L_stored : MethodName := ⟨"StripeVaultLaw", "stored", "(LStripeVault;III[J)I"⟩
abbrev c_L_where : ByteArray := method_12_code
def y_L_where : MethodName := ⟨"StripeVaultLaw", "where", "(LStripeVault;III[J)I"⟩
abbrev c_L_product : ByteArray := method_13_code
def y_L_product : MethodName := ⟨"StripeVaultLaw", "product", "(LStripeVault;II[J)I"⟩
abbrev c_A_fill : ByteArray := prog_16_method_103_code
def y_A_fill : MethodName := ⟨"java/util/Arrays", "fill", "([II)V"⟩
end
section
/-! decode rows -/
theorem d_V_init_0 : decode c_V_init 0 = .ok (.aload_n 0, 1) := by decide +kernel
theorem d_V_init_1 : decode c_V_init 1 = .ok (.invokespecial 1, 3) := by decide +kernel
theorem d_V_init_4 : decode c_V_init 4 = .ok (.iload_n 1, 1) := by decide +kernel
theorem d_V_init_5 : decode c_V_init 5 = .ok (.iconst (4), 1) := by decide +kernel
theorem d_V_init_6 : decode c_V_init 6 = .ok (.invokestatic 9, 3) := by decide +kernel
theorem d_V_init_9 : decode c_V_init 9 = .ok (.istore_n 3, 1) := by decide +kernel
theorem d_V_init_10 : decode c_V_init 10 = .ok (.iload_n 3, 1) := by decide +kernel
theorem d_V_init_11 : decode c_V_init 11 = .ok (.iload_n 2, 1) := by decide +kernel
theorem d_V_init_12 : decode c_V_init 12 = .ok (.iconst (3), 1) := by decide +kernel
theorem d_V_init_13 : decode c_V_init 13 = .ok (.invokestatic 9, 3) := by decide +kernel
theorem d_V_init_16 : decode c_V_init 16 = .ok (.iadd, 1) := by decide +kernel
theorem d_V_init_17 : decode c_V_init 17 = .ok (.istore 4, 2) := by decide +kernel
theorem d_V_init_19 : decode c_V_init 19 = .ok (.aload_n 0, 1) := by decide +kernel
theorem d_V_init_20 : decode c_V_init 20 = .ok (.new 13, 3) := by decide +kernel
theorem d_V_init_23 : decode c_V_init 23 = .ok (.dup, 1) := by decide +kernel
theorem d_V_init_24 : decode c_V_init 24 = .ok (.iload_n 3, 1) := by decide +kernel
theorem d_V_init_25 : decode c_V_init 25 = .ok (.iload 4, 2) := by decide +kernel
theorem d_V_init_27 : decode c_V_init 27 = .ok (.invokespecial 15, 3) := by decide +kernel
theorem d_V_init_30 : decode c_V_init 30 = .ok (.putfield 18, 3) := by decide +kernel
theorem d_V_init_33 : decode c_V_init 33 = .ok (.aload_n 0, 1) := by decide +kernel
theorem d_V_init_34 : decode c_V_init 34 = .ok (.new 22, 3) := by decide +kernel
theorem d_V_init_37 : decode c_V_init 37 = .ok (.dup, 1) := by decide +kernel
theorem d_V_init_38 : decode c_V_init 38 = .ok (.invokespecial 24, 3) := by decide +kernel
theorem d_V_init_41 : decode c_V_init 41 = .ok (.putfield 25, 3) := by decide +kernel
theorem d_V_init_44 : decode c_V_init 44 = .ok (.aload_n 0, 1) := by decide +kernel
theorem d_V_init_45 : decode c_V_init 45 = .ok (.new 29, 3) := by decide +kernel
theorem d_V_init_48 : decode c_V_init 48 = .ok (.dup, 1) := by decide +kernel
theorem d_V_init_49 : decode c_V_init 49 = .ok (.iload_n 3, 1) := by decide +kernel
theorem d_V_init_50 : decode c_V_init 50 = .ok (.iload 4, 2) := by decide +kernel
theorem d_V_init_52 : decode c_V_init 52 = .ok (.invokespecial 31, 3) := by decide +kernel
theorem d_V_init_55 : decode c_V_init 55 = .ok (.putfield 32, 3) := by decide +kernel
theorem d_V_init_58 : decode c_V_init 58 = .ok (.aload_n 0, 1) := by decide +kernel
theorem d_V_init_59 : decode c_V_init 59 = .ok (.bipush (32), 2) := by decide +kernel
theorem d_V_init_61 : decode c_V_init 61 = .ok (.newarray .int, 2) := by decide +kernel
theorem d_V_init_63 : decode c_V_init 63 = .ok (.putfield 36, 3) := by decide +kernel
theorem d_V_init_66 : decode c_V_init 66 = .ok (.aload_n 0, 1) := by decide +kernel
theorem d_V_init_67 : decode c_V_init 67 = .ok (.iconst (0), 1) := by decide +kernel
theorem d_V_init_68 : decode c_V_init 68 = .ok (.putfield 40, 3) := by decide +kernel
theorem d_V_init_71 : decode c_V_init 71 = .ok (.aload_n 0, 1) := by decide +kernel
theorem d_V_init_72 : decode c_V_init 72 = .ok (.bipush (32), 2) := by decide +kernel
theorem d_V_init_74 : decode c_V_init 74 = .ok (.newarray .int, 2) := by decide +kernel
theorem d_V_init_76 : decode c_V_init 76 = .ok (.putfield 44, 3) := by decide +kernel
theorem d_V_init_79 : decode c_V_init 79 = .ok (.aload_n 0, 1) := by decide +kernel
theorem d_V_init_80 : decode c_V_init 80 = .ok (.iconst (0), 1) := by decide +kernel
theorem d_V_init_81 : decode c_V_init 81 = .ok (.putfield 47, 3) := by decide +kernel
theorem d_V_init_84 : decode c_V_init 84 = .ok (.return_, 1) := by decide +kernel
theorem d_V_put_0 : decode c_V_put 0 = .ok (.iload_n 1, 1) := by decide +kernel
theorem d_V_put_1 : decode c_V_put 1 = .ok (.iconst (1), 1) := by decide +kernel
theorem d_V_put_2 : decode c_V_put 2 = .ok (.if_icmp .lt (20), 3) := by decide +kernel
theorem d_V_put_5 : decode c_V_put 5 = .ok (.iload_n 1, 1) := by decide +kernel
theorem d_V_put_6 : decode c_V_put 6 = .ok (.bipush (8), 2) := by decide +kernel
theorem d_V_put_8 : decode c_V_put 8 = .ok (.if_icmp .gt (14), 3) := by decide +kernel
theorem d_V_put_11 : decode c_V_put 11 = .ok (.aload_n 0, 1) := by decide +kernel
theorem d_V_put_12 : decode c_V_put 12 = .ok (.getfield 40, 3) := by decide +kernel
theorem d_V_put_15 : decode c_V_put 15 = .ok (.iload_n 1, 1) := by decide +kernel
theorem d_V_put_16 : decode c_V_put 16 = .ok (.iadd, 1) := by decide +kernel
theorem d_V_put_17 : decode c_V_put 17 = .ok (.bipush (32), 2) := by decide +kernel
theorem d_V_put_19 : decode c_V_put 19 = .ok (.if_icmp .le (5), 3) := by decide +kernel
theorem d_V_put_22 : decode c_V_put 22 = .ok (.iconst (0), 1) := by decide +kernel
theorem d_V_put_23 : decode c_V_put 23 = .ok (.ireturn, 1) := by decide +kernel
theorem d_V_put_24 : decode c_V_put 24 = .ok (.iconst (0), 1) := by decide +kernel
theorem d_V_put_25 : decode c_V_put 25 = .ok (.istore 4, 2) := by decide +kernel
theorem d_V_put_27 : decode c_V_put 27 = .ok (.iload 4, 2) := by decide +kernel
theorem d_V_put_29 : decode c_V_put 29 = .ok (.iload_n 1, 1) := by decide +kernel
theorem d_V_put_30 : decode c_V_put 30 = .ok (.if_icmp .ge (37), 3) := by decide +kernel
theorem d_V_put_33 : decode c_V_put 33 = .ok (.aload_n 0, 1) := by decide +kernel
theorem d_V_put_34 : decode c_V_put 34 = .ok (.getfield 36, 3) := by decide +kernel
theorem d_V_put_37 : decode c_V_put 37 = .ok (.aload_n 0, 1) := by decide +kernel
theorem d_V_put_38 : decode c_V_put 38 = .ok (.getfield 40, 3) := by decide +kernel
theorem d_V_put_41 : decode c_V_put 41 = .ok (.iload 4, 2) := by decide +kernel
theorem d_V_put_43 : decode c_V_put 43 = .ok (.iadd, 1) := by decide +kernel
theorem d_V_put_44 : decode c_V_put 44 = .ok (.lload_n 2, 1) := by decide +kernel
theorem d_V_put_45 : decode c_V_put 45 = .ok (.bipush (8), 2) := by decide +kernel
theorem d_V_put_47 : decode c_V_put 47 = .ok (.iload_n 1, 1) := by decide +kernel
theorem d_V_put_48 : decode c_V_put 48 = .ok (.iconst (1), 1) := by decide +kernel
theorem d_V_put_49 : decode c_V_put 49 = .ok (.isub, 1) := by decide +kernel
theorem d_V_put_50 : decode c_V_put 50 = .ok (.iload 4, 2) := by decide +kernel
theorem d_V_put_52 : decode c_V_put 52 = .ok (.isub, 1) := by decide +kernel
theorem d_V_put_53 : decode c_V_put 53 = .ok (.imul, 1) := by decide +kernel
theorem d_V_put_54 : decode c_V_put 54 = .ok (.lushr, 1) := by decide +kernel
theorem d_V_put_55 : decode c_V_put 55 = .ok (.l2i, 1) := by decide +kernel
theorem d_V_put_56 : decode c_V_put 56 = .ok (.sipush (255), 3) := by decide +kernel
theorem d_V_put_59 : decode c_V_put 59 = .ok (.iand, 1) := by decide +kernel
theorem d_V_put_60 : decode c_V_put 60 = .ok (.iastore, 1) := by decide +kernel
theorem d_V_put_61 : decode c_V_put 61 = .ok (.iinc 4 (1), 3) := by decide +kernel
theorem d_V_put_64 : decode c_V_put 64 = .ok (.goto (-37), 3) := by decide +kernel
theorem d_V_put_67 : decode c_V_put 67 = .ok (.aload_n 0, 1) := by decide +kernel
theorem d_V_put_68 : decode c_V_put 68 = .ok (.dup, 1) := by decide +kernel
theorem d_V_put_69 : decode c_V_put 69 = .ok (.getfield 40, 3) := by decide +kernel
theorem d_V_put_72 : decode c_V_put 72 = .ok (.iload_n 1, 1) := by decide +kernel
theorem d_V_put_73 : decode c_V_put 73 = .ok (.iadd, 1) := by decide +kernel
theorem d_V_put_74 : decode c_V_put 74 = .ok (.putfield 40, 3) := by decide +kernel
theorem d_V_put_77 : decode c_V_put 77 = .ok (.iconst (1), 1) := by decide +kernel
theorem d_V_put_78 : decode c_V_put 78 = .ok (.ireturn, 1) := by decide +kernel
theorem d_V_scrap_0 : decode c_V_scrap 0 = .ok (.aload_n 0, 1) := by decide +kernel
theorem d_V_scrap_1 : decode c_V_scrap 1 = .ok (.iconst (0), 1) := by decide +kernel
theorem d_V_scrap_2 : decode c_V_scrap 2 = .ok (.putfield 40, 3) := by decide +kernel
theorem d_V_scrap_5 : decode c_V_scrap 5 = .ok (.return_, 1) := by decide +kernel
theorem d_V_store_0 : decode c_V_store 0 = .ok (.iload_n 1, 1) := by decide +kernel
theorem d_V_store_1 : decode c_V_store 1 = .ok (.invokestatic 50, 3) := by decide +kernel
theorem d_V_store_4 : decode c_V_store 4 = .ok (.ifCond .eq (21), 3) := by decide +kernel
theorem d_V_store_7 : decode c_V_store 7 = .ok (.aload_n 0, 1) := by decide +kernel
theorem d_V_store_8 : decode c_V_store 8 = .ok (.getfield 32, 3) := by decide +kernel
theorem d_V_store_11 : decode c_V_store 11 = .ok (.iload_n 1, 1) := by decide +kernel
theorem d_V_store_12 : decode c_V_store 12 = .ok (.invokevirtual 54, 3) := by decide +kernel
theorem d_V_store_15 : decode c_V_store 15 = .ok (.ifCond .ne (10), 3) := by decide +kernel
theorem d_V_store_18 : decode c_V_store 18 = .ok (.aload_n 0, 1) := by decide +kernel
theorem d_V_store_19 : decode c_V_store 19 = .ok (.getfield 40, 3) := by decide +kernel
theorem d_V_store_22 : decode c_V_store 22 = .ok (.ifCond .ne (11), 3) := by decide +kernel
theorem d_V_store_25 : decode c_V_store 25 = .ok (.new 57, 3) := by decide +kernel
theorem d_V_store_28 : decode c_V_store 28 = .ok (.dup, 1) := by decide +kernel
theorem d_V_store_29 : decode c_V_store 29 = .ok (.invokespecial 59, 3) := by decide +kernel
theorem d_V_store_32 : decode c_V_store 32 = .ok (.athrow, 1) := by decide +kernel
theorem d_V_store_33 : decode c_V_store 33 = .ok (.aload_n 0, 1) := by decide +kernel
theorem d_V_store_34 : decode c_V_store 34 = .ok (.getfield 32, 3) := by decide +kernel
theorem d_V_store_37 : decode c_V_store 37 = .ok (.iload_n 1, 1) := by decide +kernel
theorem d_V_store_38 : decode c_V_store 38 = .ok (.aload_n 0, 1) := by decide +kernel
theorem d_V_store_39 : decode c_V_store 39 = .ok (.getfield 40, 3) := by decide +kernel
theorem d_V_store_42 : decode c_V_store 42 = .ok (.invokevirtual 60, 3) := by decide +kernel
theorem d_V_store_45 : decode c_V_store 45 = .ok (.aload_n 0, 1) := by decide +kernel
theorem d_V_store_46 : decode c_V_store 46 = .ok (.iload_n 1, 1) := by decide +kernel
theorem d_V_store_47 : decode c_V_store 47 = .ok (.invokevirtual 63, 3) := by decide +kernel
theorem d_V_store_50 : decode c_V_store 50 = .ok (.ifCond .ne (17), 3) := by decide +kernel
theorem d_V_store_53 : decode c_V_store 53 = .ok (.aload_n 0, 1) := by decide +kernel
theorem d_V_store_54 : decode c_V_store 54 = .ok (.iload_n 1, 1) := by decide +kernel
theorem d_V_store_55 : decode c_V_store 55 = .ok (.invokevirtual 66, 3) := by decide +kernel
theorem d_V_store_58 : decode c_V_store 58 = .ok (.pop, 1) := by decide +kernel
theorem d_V_store_59 : decode c_V_store 59 = .ok (.new 70, 3) := by decide +kernel
theorem d_V_store_62 : decode c_V_store 62 = .ok (.dup, 1) := by decide +kernel
theorem d_V_store_63 : decode c_V_store 63 = .ok (.invokespecial 72, 3) := by decide +kernel
theorem d_V_store_66 : decode c_V_store 66 = .ok (.athrow, 1) := by decide +kernel
theorem d_V_store_67 : decode c_V_store 67 = .ok (.aload_n 0, 1) := by decide +kernel
theorem d_V_store_68 : decode c_V_store 68 = .ok (.iconst (0), 1) := by decide +kernel
theorem d_V_store_69 : decode c_V_store 69 = .ok (.putfield 40, 3) := by decide +kernel
theorem d_V_store_72 : decode c_V_store 72 = .ok (.aload_n 0, 1) := by decide +kernel
theorem d_V_store_73 : decode c_V_store 73 = .ok (.getfield 32, 3) := by decide +kernel
theorem d_V_store_76 : decode c_V_store 76 = .ok (.iload_n 1, 1) := by decide +kernel
theorem d_V_store_77 : decode c_V_store 77 = .ok (.invokevirtual 73, 3) := by decide +kernel
theorem d_V_store_80 : decode c_V_store 80 = .ok (.ireturn, 1) := by decide +kernel
theorem d_V_drop_0 : decode c_V_drop 0 = .ok (.aload_n 0, 1) := by decide +kernel
theorem d_V_drop_1 : decode c_V_drop 1 = .ok (.iload_n 1, 1) := by decide +kernel
theorem d_V_drop_2 : decode c_V_drop 2 = .ok (.invokevirtual 76, 3) := by decide +kernel
theorem d_V_drop_5 : decode c_V_drop 5 = .ok (.aload_n 0, 1) := by decide +kernel
theorem d_V_drop_6 : decode c_V_drop 6 = .ok (.iload_n 1, 1) := by decide +kernel
theorem d_V_drop_7 : decode c_V_drop 7 = .ok (.invokevirtual 66, 3) := by decide +kernel
theorem d_V_drop_10 : decode c_V_drop 10 = .ok (.ireturn, 1) := by decide +kernel
theorem d_V_get_0 : decode c_V_get 0 = .ok (.aload_n 0, 1) := by decide +kernel
theorem d_V_get_1 : decode c_V_get 1 = .ok (.iload_n 1, 1) := by decide +kernel
theorem d_V_get_2 : decode c_V_get 2 = .ok (.invokevirtual 76, 3) := by decide +kernel
theorem d_V_get_5 : decode c_V_get 5 = .ok (.aload_n 0, 1) := by decide +kernel
theorem d_V_get_6 : decode c_V_get 6 = .ok (.iload_n 1, 1) := by decide +kernel
theorem d_V_get_7 : decode c_V_get 7 = .ok (.invokevirtual 80, 3) := by decide +kernel
theorem d_V_get_10 : decode c_V_get 10 = .ok (.ifCond .eq (11), 3) := by decide +kernel
theorem d_V_get_13 : decode c_V_get 13 = .ok (.new 70, 3) := by decide +kernel
theorem d_V_get_16 : decode c_V_get 16 = .ok (.dup, 1) := by decide +kernel
theorem d_V_get_17 : decode c_V_get 17 = .ok (.invokespecial 72, 3) := by decide +kernel
theorem d_V_get_20 : decode c_V_get 20 = .ok (.athrow, 1) := by decide +kernel
theorem d_V_get_21 : decode c_V_get 21 = .ok (.iconst (0), 1) := by decide +kernel
theorem d_V_get_22 : decode c_V_get 22 = .ok (.istore_n 2, 1) := by decide +kernel
theorem d_V_get_23 : decode c_V_get 23 = .ok (.iload_n 2, 1) := by decide +kernel
theorem d_V_get_24 : decode c_V_get 24 = .ok (.aload_n 0, 1) := by decide +kernel
theorem d_V_get_25 : decode c_V_get 25 = .ok (.getfield 32, 3) := by decide +kernel
theorem d_V_get_28 : decode c_V_get 28 = .ok (.iload_n 1, 1) := by decide +kernel
theorem d_V_get_29 : decode c_V_get 29 = .ok (.invokevirtual 73, 3) := by decide +kernel
theorem d_V_get_32 : decode c_V_get 32 = .ok (.if_icmp .ge (27), 3) := by decide +kernel
theorem d_V_get_35 : decode c_V_get 35 = .ok (.aload_n 0, 1) := by decide +kernel
theorem d_V_get_36 : decode c_V_get 36 = .ok (.aload_n 0, 1) := by decide +kernel
theorem d_V_get_37 : decode c_V_get 37 = .ok (.getfield 32, 3) := by decide +kernel
theorem d_V_get_40 : decode c_V_get 40 = .ok (.iload_n 1, 1) := by decide +kernel
theorem d_V_get_41 : decode c_V_get 41 = .ok (.iload_n 2, 1) := by decide +kernel
theorem d_V_get_42 : decode c_V_get 42 = .ok (.invokevirtual 83, 3) := by decide +kernel
theorem d_V_get_45 : decode c_V_get 45 = .ok (.invokevirtual 86, 3) := by decide +kernel
theorem d_V_get_48 : decode c_V_get 48 = .ok (.aload_n 0, 1) := by decide +kernel
theorem d_V_get_49 : decode c_V_get 49 = .ok (.iload_n 2, 1) := by decide +kernel
theorem d_V_get_50 : decode c_V_get 50 = .ok (.invokevirtual 89, 3) := by decide +kernel
theorem d_V_get_53 : decode c_V_get 53 = .ok (.iinc 2 (1), 3) := by decide +kernel
theorem d_V_get_56 : decode c_V_get 56 = .ok (.goto (-33), 3) := by decide +kernel
theorem d_V_get_59 : decode c_V_get 59 = .ok (.aload_n 0, 1) := by decide +kernel
theorem d_V_get_60 : decode c_V_get 60 = .ok (.aload_n 0, 1) := by decide +kernel
theorem d_V_get_61 : decode c_V_get 61 = .ok (.getfield 32, 3) := by decide +kernel
theorem d_V_get_64 : decode c_V_get 64 = .ok (.iload_n 1, 1) := by decide +kernel
theorem d_V_get_65 : decode c_V_get 65 = .ok (.invokevirtual 92, 3) := by decide +kernel
theorem d_V_get_68 : decode c_V_get 68 = .ok (.putfield 47, 3) := by decide +kernel
theorem d_V_get_71 : decode c_V_get 71 = .ok (.aload_n 0, 1) := by decide +kernel
theorem d_V_get_72 : decode c_V_get 72 = .ok (.getfield 47, 3) := by decide +kernel
theorem d_V_get_75 : decode c_V_get 75 = .ok (.ireturn, 1) := by decide +kernel
theorem d_V_at_0 : decode c_V_at 0 = .ok (.iload_n 1, 1) := by decide +kernel
theorem d_V_at_1 : decode c_V_at 1 = .ok (.ifCond .lt (11), 3) := by decide +kernel
theorem d_V_at_4 : decode c_V_at 4 = .ok (.iload_n 1, 1) := by decide +kernel
theorem d_V_at_5 : decode c_V_at 5 = .ok (.aload_n 0, 1) := by decide +kernel
theorem d_V_at_6 : decode c_V_at 6 = .ok (.getfield 47, 3) := by decide +kernel
theorem d_V_at_9 : decode c_V_at 9 = .ok (.if_icmp .lt (11), 3) := by decide +kernel
theorem d_V_at_12 : decode c_V_at 12 = .ok (.new 95, 3) := by decide +kernel
theorem d_V_at_15 : decode c_V_at 15 = .ok (.dup, 1) := by decide +kernel
theorem d_V_at_16 : decode c_V_at 16 = .ok (.invokespecial 97, 3) := by decide +kernel
theorem d_V_at_19 : decode c_V_at 19 = .ok (.athrow, 1) := by decide +kernel
theorem d_V_at_20 : decode c_V_at 20 = .ok (.aload_n 0, 1) := by decide +kernel
theorem d_V_at_21 : decode c_V_at 21 = .ok (.getfield 44, 3) := by decide +kernel
theorem d_V_at_24 : decode c_V_at 24 = .ok (.iload_n 1, 1) := by decide +kernel
theorem d_V_at_25 : decode c_V_at 25 = .ok (.iaload, 1) := by decide +kernel
theorem d_V_at_26 : decode c_V_at 26 = .ok (.ireturn, 1) := by decide +kernel
theorem d_V_fail_0 : decode c_V_fail 0 = .ok (.aload_n 0, 1) := by decide +kernel
theorem d_V_fail_1 : decode c_V_fail 1 = .ok (.iload_n 1, 1) := by decide +kernel
theorem d_V_fail_2 : decode c_V_fail 2 = .ok (.invokevirtual 98, 3) := by decide +kernel
theorem d_V_fail_5 : decode c_V_fail 5 = .ok (.aload_n 0, 1) := by decide +kernel
theorem d_V_fail_6 : decode c_V_fail 6 = .ok (.getfield 25, 3) := by decide +kernel
theorem d_V_fail_9 : decode c_V_fail 9 = .ok (.iload_n 1, 1) := by decide +kernel
theorem d_V_fail_10 : decode c_V_fail 10 = .ok (.invokevirtual 101, 3) := by decide +kernel
theorem d_V_fail_13 : decode c_V_fail 13 = .ok (.ifCond .ne (11), 3) := by decide +kernel
theorem d_V_fail_16 : decode c_V_fail 16 = .ok (.new 70, 3) := by decide +kernel
theorem d_V_fail_19 : decode c_V_fail 19 = .ok (.dup, 1) := by decide +kernel
theorem d_V_fail_20 : decode c_V_fail 20 = .ok (.invokespecial 72, 3) := by decide +kernel
theorem d_V_fail_23 : decode c_V_fail 23 = .ok (.athrow, 1) := by decide +kernel
theorem d_V_fail_24 : decode c_V_fail 24 = .ok (.bipush (10), 2) := by decide +kernel
theorem d_V_fail_26 : decode c_V_fail 26 = .ok (.aload_n 0, 1) := by decide +kernel
theorem d_V_fail_27 : decode c_V_fail 27 = .ok (.getfield 25, 3) := by decide +kernel
theorem d_V_fail_30 : decode c_V_fail 30 = .ok (.iload_n 1, 1) := by decide +kernel
theorem d_V_fail_31 : decode c_V_fail 31 = .ok (.invokevirtual 104, 3) := by decide +kernel
theorem d_V_fail_34 : decode c_V_fail 34 = .ok (.isub, 1) := by decide +kernel
theorem d_V_fail_35 : decode c_V_fail 35 = .ok (.istore_n 2, 1) := by decide +kernel
theorem d_V_fail_36 : decode c_V_fail 36 = .ok (.aload_n 0, 1) := by decide +kernel
theorem d_V_fail_37 : decode c_V_fail 37 = .ok (.getfield 25, 3) := by decide +kernel
theorem d_V_fail_40 : decode c_V_fail 40 = .ok (.iload_n 1, 1) := by decide +kernel
theorem d_V_fail_41 : decode c_V_fail 41 = .ok (.invokevirtual 107, 3) := by decide +kernel
theorem d_V_fail_44 : decode c_V_fail 44 = .ok (.aload_n 0, 1) := by decide +kernel
theorem d_V_fail_45 : decode c_V_fail 45 = .ok (.getfield 32, 3) := by decide +kernel
theorem d_V_fail_48 : decode c_V_fail 48 = .ok (.iload_n 1, 1) := by decide +kernel
theorem d_V_fail_49 : decode c_V_fail 49 = .ok (.invokevirtual 110, 3) := by decide +kernel
theorem d_V_fail_52 : decode c_V_fail 52 = .ok (.iload_n 2, 1) := by decide +kernel
theorem d_V_fail_53 : decode c_V_fail 53 = .ok (.ireturn, 1) := by decide +kernel
theorem d_V_renew_0 : decode c_V_renew 0 = .ok (.aload_n 0, 1) := by decide +kernel
theorem d_V_renew_1 : decode c_V_renew 1 = .ok (.iload_n 1, 1) := by decide +kernel
theorem d_V_renew_2 : decode c_V_renew 2 = .ok (.invokevirtual 98, 3) := by decide +kernel
theorem d_V_renew_5 : decode c_V_renew 5 = .ok (.aload_n 0, 1) := by decide +kernel
theorem d_V_renew_6 : decode c_V_renew 6 = .ok (.getfield 25, 3) := by decide +kernel
theorem d_V_renew_9 : decode c_V_renew 9 = .ok (.iload_n 1, 1) := by decide +kernel
theorem d_V_renew_10 : decode c_V_renew 10 = .ok (.invokevirtual 101, 3) := by decide +kernel
theorem d_V_renew_13 : decode c_V_renew 13 = .ok (.ifCond .eq (11), 3) := by decide +kernel
theorem d_V_renew_16 : decode c_V_renew 16 = .ok (.new 70, 3) := by decide +kernel
theorem d_V_renew_19 : decode c_V_renew 19 = .ok (.dup, 1) := by decide +kernel
theorem d_V_renew_20 : decode c_V_renew 20 = .ok (.invokespecial 72, 3) := by decide +kernel
theorem d_V_renew_23 : decode c_V_renew 23 = .ok (.athrow, 1) := by decide +kernel
theorem d_V_renew_24 : decode c_V_renew 24 = .ok (.aload_n 0, 1) := by decide +kernel
theorem d_V_renew_25 : decode c_V_renew 25 = .ok (.getfield 25, 3) := by decide +kernel
theorem d_V_renew_28 : decode c_V_renew 28 = .ok (.iload_n 1, 1) := by decide +kernel
theorem d_V_renew_29 : decode c_V_renew 29 = .ok (.invokevirtual 113, 3) := by decide +kernel
theorem d_V_renew_32 : decode c_V_renew 32 = .ok (.aload_n 0, 1) := by decide +kernel
theorem d_V_renew_33 : decode c_V_renew 33 = .ok (.getfield 25, 3) := by decide +kernel
theorem d_V_renew_36 : decode c_V_renew 36 = .ok (.invokevirtual 116, 3) := by decide +kernel
theorem d_V_renew_39 : decode c_V_renew 39 = .ok (.ireturn, 1) := by decide +kernel
theorem d_V_repair_0 : decode c_V_repair 0 = .ok (.iconst (0), 1) := by decide +kernel
theorem d_V_repair_1 : decode c_V_repair 1 = .ok (.istore_n 1, 1) := by decide +kernel
theorem d_V_repair_2 : decode c_V_repair 2 = .ok (.iconst (0), 1) := by decide +kernel
theorem d_V_repair_3 : decode c_V_repair 3 = .ok (.istore_n 2, 1) := by decide +kernel
theorem d_V_repair_4 : decode c_V_repair 4 = .ok (.iload_n 2, 1) := by decide +kernel
theorem d_V_repair_5 : decode c_V_repair 5 = .ok (.bipush (6), 2) := by decide +kernel
theorem d_V_repair_7 : decode c_V_repair 7 = .ok (.if_icmp .ge (45), 3) := by decide +kernel
theorem d_V_repair_10 : decode c_V_repair 10 = .ok (.iconst (0), 1) := by decide +kernel
theorem d_V_repair_11 : decode c_V_repair 11 = .ok (.istore_n 3, 1) := by decide +kernel
theorem d_V_repair_12 : decode c_V_repair 12 = .ok (.iload_n 3, 1) := by decide +kernel
theorem d_V_repair_13 : decode c_V_repair 13 = .ok (.aload_n 0, 1) := by decide +kernel
theorem d_V_repair_14 : decode c_V_repair 14 = .ok (.getfield 32, 3) := by decide +kernel
theorem d_V_repair_17 : decode c_V_repair 17 = .ok (.iload_n 2, 1) := by decide +kernel
theorem d_V_repair_18 : decode c_V_repair 18 = .ok (.invokevirtual 73, 3) := by decide +kernel
theorem d_V_repair_21 : decode c_V_repair 21 = .ok (.if_icmp .ge (25), 3) := by decide +kernel
theorem d_V_repair_24 : decode c_V_repair 24 = .ok (.iload_n 1, 1) := by decide +kernel
theorem d_V_repair_25 : decode c_V_repair 25 = .ok (.aload_n 0, 1) := by decide +kernel
theorem d_V_repair_26 : decode c_V_repair 26 = .ok (.aload_n 0, 1) := by decide +kernel
theorem d_V_repair_27 : decode c_V_repair 27 = .ok (.getfield 32, 3) := by decide +kernel
theorem d_V_repair_30 : decode c_V_repair 30 = .ok (.iload_n 2, 1) := by decide +kernel
theorem d_V_repair_31 : decode c_V_repair 31 = .ok (.iload_n 3, 1) := by decide +kernel
theorem d_V_repair_32 : decode c_V_repair 32 = .ok (.invokevirtual 83, 3) := by decide +kernel
theorem d_V_repair_35 : decode c_V_repair 35 = .ok (.invokevirtual 120, 3) := by decide +kernel
theorem d_V_repair_38 : decode c_V_repair 38 = .ok (.iadd, 1) := by decide +kernel
theorem d_V_repair_39 : decode c_V_repair 39 = .ok (.istore_n 1, 1) := by decide +kernel
theorem d_V_repair_40 : decode c_V_repair 40 = .ok (.iinc 3 (1), 3) := by decide +kernel
theorem d_V_repair_43 : decode c_V_repair 43 = .ok (.goto (-31), 3) := by decide +kernel
theorem d_V_repair_46 : decode c_V_repair 46 = .ok (.iinc 2 (1), 3) := by decide +kernel
theorem d_V_repair_49 : decode c_V_repair 49 = .ok (.goto (-45), 3) := by decide +kernel
theorem d_V_repair_52 : decode c_V_repair 52 = .ok (.iload_n 1, 1) := by decide +kernel
theorem d_V_repair_53 : decode c_V_repair 53 = .ok (.ireturn, 1) := by decide +kernel
theorem d_V_check_0 : decode c_V_check 0 = .ok (.aload_n 0, 1) := by decide +kernel
theorem d_V_check_1 : decode c_V_check 1 = .ok (.iload_n 1, 1) := by decide +kernel
theorem d_V_check_2 : decode c_V_check 2 = .ok (.invokevirtual 76, 3) := by decide +kernel
theorem d_V_check_5 : decode c_V_check 5 = .ok (.iconst (0), 1) := by decide +kernel
theorem d_V_check_6 : decode c_V_check 6 = .ok (.istore_n 2, 1) := by decide +kernel
theorem d_V_check_7 : decode c_V_check 7 = .ok (.iconst (0), 1) := by decide +kernel
theorem d_V_check_8 : decode c_V_check 8 = .ok (.istore_n 3, 1) := by decide +kernel
theorem d_V_check_9 : decode c_V_check 9 = .ok (.iload_n 3, 1) := by decide +kernel
theorem d_V_check_10 : decode c_V_check 10 = .ok (.aload_n 0, 1) := by decide +kernel
theorem d_V_check_11 : decode c_V_check 11 = .ok (.getfield 32, 3) := by decide +kernel
theorem d_V_check_14 : decode c_V_check 14 = .ok (.iload_n 1, 1) := by decide +kernel
theorem d_V_check_15 : decode c_V_check 15 = .ok (.invokevirtual 73, 3) := by decide +kernel
theorem d_V_check_18 : decode c_V_check 18 = .ok (.if_icmp .ge (41), 3) := by decide +kernel
theorem d_V_check_21 : decode c_V_check 21 = .ok (.aload_n 0, 1) := by decide +kernel
theorem d_V_check_22 : decode c_V_check 22 = .ok (.getfield 32, 3) := by decide +kernel
theorem d_V_check_25 : decode c_V_check 25 = .ok (.iload_n 1, 1) := by decide +kernel
theorem d_V_check_26 : decode c_V_check 26 = .ok (.iload_n 3, 1) := by decide +kernel
theorem d_V_check_27 : decode c_V_check 27 = .ok (.invokevirtual 83, 3) := by decide +kernel
theorem d_V_check_30 : decode c_V_check 30 = .ok (.istore 4, 2) := by decide +kernel
theorem d_V_check_32 : decode c_V_check 32 = .ok (.aload_n 0, 1) := by decide +kernel
theorem d_V_check_33 : decode c_V_check 33 = .ok (.iload 4, 2) := by decide +kernel
theorem d_V_check_35 : decode c_V_check 35 = .ok (.invokevirtual 123, 3) := by decide +kernel
theorem d_V_check_38 : decode c_V_check 38 = .ok (.ifCond .ne (15), 3) := by decide +kernel
theorem d_V_check_41 : decode c_V_check 41 = .ok (.aload_n 0, 1) := by decide +kernel
theorem d_V_check_42 : decode c_V_check 42 = .ok (.iload 4, 2) := by decide +kernel
theorem d_V_check_44 : decode c_V_check 44 = .ok (.invokevirtual 126, 3) := by decide +kernel
theorem d_V_check_47 : decode c_V_check 47 = .ok (.ifCond .eq (6), 3) := by decide +kernel
theorem d_V_check_50 : decode c_V_check 50 = .ok (.iinc 2 (1), 3) := by decide +kernel
theorem d_V_check_53 : decode c_V_check 53 = .ok (.iinc 3 (1), 3) := by decide +kernel
theorem d_V_check_56 : decode c_V_check 56 = .ok (.goto (-47), 3) := by decide +kernel
theorem d_V_check_59 : decode c_V_check 59 = .ok (.iload_n 2, 1) := by decide +kernel
theorem d_V_check_60 : decode c_V_check 60 = .ok (.ireturn, 1) := by decide +kernel
theorem d_V_harm_0 : decode c_V_harm 0 = .ok (.aload_n 0, 1) := by decide +kernel
theorem d_V_harm_1 : decode c_V_harm 1 = .ok (.iload_n 1, 1) := by decide +kernel
theorem d_V_harm_2 : decode c_V_harm 2 = .ok (.iload_n 2, 1) := by decide +kernel
theorem d_V_harm_3 : decode c_V_harm 3 = .ok (.iload_n 3, 1) := by decide +kernel
theorem d_V_harm_4 : decode c_V_harm 4 = .ok (.invokevirtual 129, 3) := by decide +kernel
theorem d_V_harm_7 : decode c_V_harm 7 = .ok (.iload_n 1, 1) := by decide +kernel
theorem d_V_harm_8 : decode c_V_harm 8 = .ok (.iload_n 2, 1) := by decide +kernel
theorem d_V_harm_9 : decode c_V_harm 9 = .ok (.invokestatic 133, 3) := by decide +kernel
theorem d_V_harm_12 : decode c_V_harm 12 = .ok (.istore 5, 2) := by decide +kernel
theorem d_V_harm_14 : decode c_V_harm 14 = .ok (.aload_n 0, 1) := by decide +kernel
theorem d_V_harm_15 : decode c_V_harm 15 = .ok (.getfield 25, 3) := by decide +kernel
theorem d_V_harm_18 : decode c_V_harm 18 = .ok (.iload 5, 2) := by decide +kernel
theorem d_V_harm_20 : decode c_V_harm 20 = .ok (.iload_n 3, 1) := by decide +kernel
theorem d_V_harm_21 : decode c_V_harm 21 = .ok (.invokevirtual 136, 3) := by decide +kernel
theorem d_V_harm_24 : decode c_V_harm 24 = .ok (.iload 4, 2) := by decide +kernel
theorem d_V_harm_26 : decode c_V_harm 26 = .ok (.sipush (255), 3) := by decide +kernel
theorem d_V_harm_29 : decode c_V_harm 29 = .ok (.iand, 1) := by decide +kernel
theorem d_V_harm_30 : decode c_V_harm 30 = .ok (.ixor, 1) := by decide +kernel
theorem d_V_harm_31 : decode c_V_harm 31 = .ok (.istore 6, 2) := by decide +kernel
theorem d_V_harm_33 : decode c_V_harm 33 = .ok (.aload_n 0, 1) := by decide +kernel
theorem d_V_harm_34 : decode c_V_harm 34 = .ok (.getfield 25, 3) := by decide +kernel
theorem d_V_harm_37 : decode c_V_harm 37 = .ok (.iload 5, 2) := by decide +kernel
theorem d_V_harm_39 : decode c_V_harm 39 = .ok (.iload_n 3, 1) := by decide +kernel
theorem d_V_harm_40 : decode c_V_harm 40 = .ok (.iload 6, 2) := by decide +kernel
theorem d_V_harm_42 : decode c_V_harm 42 = .ok (.invokevirtual 139, 3) := by decide +kernel
theorem d_V_harm_45 : decode c_V_harm 45 = .ok (.iload 6, 2) := by decide +kernel
theorem d_V_harm_47 : decode c_V_harm 47 = .ok (.ireturn, 1) := by decide +kernel
theorem d_V_stored_0 : decode c_V_stored 0 = .ok (.aload_n 0, 1) := by decide +kernel
theorem d_V_stored_1 : decode c_V_stored 1 = .ok (.iload_n 1, 1) := by decide +kernel
theorem d_V_stored_2 : decode c_V_stored 2 = .ok (.iload_n 2, 1) := by decide +kernel
theorem d_V_stored_3 : decode c_V_stored 3 = .ok (.iload_n 3, 1) := by decide +kernel
theorem d_V_stored_4 : decode c_V_stored 4 = .ok (.invokevirtual 129, 3) := by decide +kernel
theorem d_V_stored_7 : decode c_V_stored 7 = .ok (.aload_n 0, 1) := by decide +kernel
theorem d_V_stored_8 : decode c_V_stored 8 = .ok (.getfield 25, 3) := by decide +kernel
theorem d_V_stored_11 : decode c_V_stored 11 = .ok (.iload_n 1, 1) := by decide +kernel
theorem d_V_stored_12 : decode c_V_stored 12 = .ok (.iload_n 2, 1) := by decide +kernel
theorem d_V_stored_13 : decode c_V_stored 13 = .ok (.invokestatic 133, 3) := by decide +kernel
theorem d_V_stored_16 : decode c_V_stored 16 = .ok (.iload_n 3, 1) := by decide +kernel
theorem d_V_stored_17 : decode c_V_stored 17 = .ok (.invokevirtual 136, 3) := by decide +kernel
theorem d_V_stored_20 : decode c_V_stored 20 = .ok (.ireturn, 1) := by decide +kernel
theorem d_V_where_0 : decode c_V_where 0 = .ok (.aload_n 0, 1) := by decide +kernel
theorem d_V_where_1 : decode c_V_where 1 = .ok (.iload_n 1, 1) := by decide +kernel
theorem d_V_where_2 : decode c_V_where 2 = .ok (.invokevirtual 76, 3) := by decide +kernel
theorem d_V_where_5 : decode c_V_where 5 = .ok (.iload_n 2, 1) := by decide +kernel
theorem d_V_where_6 : decode c_V_where 6 = .ok (.ifCond .lt (30), 3) := by decide +kernel
theorem d_V_where_9 : decode c_V_where 9 = .ok (.iload_n 2, 1) := by decide +kernel
theorem d_V_where_10 : decode c_V_where 10 = .ok (.aload_n 0, 1) := by decide +kernel
theorem d_V_where_11 : decode c_V_where 11 = .ok (.getfield 32, 3) := by decide +kernel
theorem d_V_where_14 : decode c_V_where 14 = .ok (.iload_n 1, 1) := by decide +kernel
theorem d_V_where_15 : decode c_V_where 15 = .ok (.invokevirtual 73, 3) := by decide +kernel
theorem d_V_where_18 : decode c_V_where 18 = .ok (.if_icmp .ge (18), 3) := by decide +kernel
theorem d_V_where_21 : decode c_V_where 21 = .ok (.iload_n 3, 1) := by decide +kernel
theorem d_V_where_22 : decode c_V_where 22 = .ok (.ifCond .lt (14), 3) := by decide +kernel
theorem d_V_where_25 : decode c_V_where 25 = .ok (.iload_n 3, 1) := by decide +kernel
theorem d_V_where_26 : decode c_V_where 26 = .ok (.aload_n 0, 1) := by decide +kernel
theorem d_V_where_27 : decode c_V_where 27 = .ok (.getfield 18, 3) := by decide +kernel
theorem d_V_where_30 : decode c_V_where 30 = .ok (.getfield 142, 3) := by decide +kernel
theorem d_V_where_33 : decode c_V_where 33 = .ok (.if_icmp .lt (11), 3) := by decide +kernel
theorem d_V_where_36 : decode c_V_where 36 = .ok (.new 95, 3) := by decide +kernel
theorem d_V_where_39 : decode c_V_where 39 = .ok (.dup, 1) := by decide +kernel
theorem d_V_where_40 : decode c_V_where 40 = .ok (.invokespecial 97, 3) := by decide +kernel
theorem d_V_where_43 : decode c_V_where 43 = .ok (.athrow, 1) := by decide +kernel
theorem d_V_where_44 : decode c_V_where 44 = .ok (.aload_n 0, 1) := by decide +kernel
theorem d_V_where_45 : decode c_V_where 45 = .ok (.getfield 32, 3) := by decide +kernel
theorem d_V_where_48 : decode c_V_where 48 = .ok (.aload_n 0, 1) := by decide +kernel
theorem d_V_where_49 : decode c_V_where 49 = .ok (.getfield 32, 3) := by decide +kernel
theorem d_V_where_52 : decode c_V_where 52 = .ok (.iload_n 1, 1) := by decide +kernel
theorem d_V_where_53 : decode c_V_where 53 = .ok (.iload_n 2, 1) := by decide +kernel
theorem d_V_where_54 : decode c_V_where 54 = .ok (.invokevirtual 83, 3) := by decide +kernel
theorem d_V_where_57 : decode c_V_where 57 = .ok (.iload_n 3, 1) := by decide +kernel
theorem d_V_where_58 : decode c_V_where 58 = .ok (.invokevirtual 145, 3) := by decide +kernel
theorem d_V_where_61 : decode c_V_where 61 = .ok (.ireturn, 1) := by decide +kernel
theorem d_V_length_0 : decode c_V_length 0 = .ok (.iload_n 1, 1) := by decide +kernel
theorem d_V_length_1 : decode c_V_length 1 = .ok (.invokestatic 50, 3) := by decide +kernel
theorem d_V_length_4 : decode c_V_length 4 = .ok (.ifCond .eq (25), 3) := by decide +kernel
theorem d_V_length_7 : decode c_V_length 7 = .ok (.aload_n 0, 1) := by decide +kernel
theorem d_V_length_8 : decode c_V_length 8 = .ok (.getfield 32, 3) := by decide +kernel
theorem d_V_length_11 : decode c_V_length 11 = .ok (.iload_n 1, 1) := by decide +kernel
theorem d_V_length_12 : decode c_V_length 12 = .ok (.invokevirtual 54, 3) := by decide +kernel
theorem d_V_length_15 : decode c_V_length 15 = .ok (.ifCond .eq (14), 3) := by decide +kernel
theorem d_V_length_18 : decode c_V_length 18 = .ok (.aload_n 0, 1) := by decide +kernel
theorem d_V_length_19 : decode c_V_length 19 = .ok (.getfield 32, 3) := by decide +kernel
theorem d_V_length_22 : decode c_V_length 22 = .ok (.iload_n 1, 1) := by decide +kernel
theorem d_V_length_23 : decode c_V_length 23 = .ok (.invokevirtual 92, 3) := by decide +kernel
theorem d_V_length_26 : decode c_V_length 26 = .ok (.goto (4), 3) := by decide +kernel
theorem d_V_length_29 : decode c_V_length 29 = .ok (.iconst (-1), 1) := by decide +kernel
theorem d_V_length_30 : decode c_V_length 30 = .ok (.ireturn, 1) := by decide +kernel
theorem d_V_room_0 : decode c_V_room 0 = .ok (.iload_n 1, 1) := by decide +kernel
theorem d_V_room_1 : decode c_V_room 1 = .ok (.invokestatic 148, 3) := by decide +kernel
theorem d_V_room_4 : decode c_V_room 4 = .ok (.ifCond .eq (25), 3) := by decide +kernel
theorem d_V_room_7 : decode c_V_room 7 = .ok (.aload_n 0, 1) := by decide +kernel
theorem d_V_room_8 : decode c_V_room 8 = .ok (.getfield 25, 3) := by decide +kernel
theorem d_V_room_11 : decode c_V_room 11 = .ok (.iload_n 1, 1) := by decide +kernel
theorem d_V_room_12 : decode c_V_room 12 = .ok (.invokevirtual 101, 3) := by decide +kernel
theorem d_V_room_15 : decode c_V_room 15 = .ok (.ifCond .eq (14), 3) := by decide +kernel
theorem d_V_room_18 : decode c_V_room 18 = .ok (.aload_n 0, 1) := by decide +kernel
theorem d_V_room_19 : decode c_V_room 19 = .ok (.getfield 25, 3) := by decide +kernel
theorem d_V_room_22 : decode c_V_room 22 = .ok (.iload_n 1, 1) := by decide +kernel
theorem d_V_room_23 : decode c_V_room 23 = .ok (.invokevirtual 104, 3) := by decide +kernel
theorem d_V_room_26 : decode c_V_room 26 = .ok (.goto (4), 3) := by decide +kernel
theorem d_V_room_29 : decode c_V_room 29 = .ok (.iconst (-1), 1) := by decide +kernel
theorem d_V_room_30 : decode c_V_room 30 = .ok (.ireturn, 1) := by decide +kernel
theorem d_V_product_0 : decode c_V_product 0 = .ok (.iload_n 1, 1) := by decide +kernel
theorem d_V_product_1 : decode c_V_product 1 = .ok (.invokestatic 151, 3) := by decide +kernel
theorem d_V_product_4 : decode c_V_product 4 = .ok (.ifCond .eq (15), 3) := by decide +kernel
theorem d_V_product_7 : decode c_V_product 7 = .ok (.iload_n 2, 1) := by decide +kernel
theorem d_V_product_8 : decode c_V_product 8 = .ok (.invokestatic 151, 3) := by decide +kernel
theorem d_V_product_11 : decode c_V_product 11 = .ok (.ifCond .ne (16), 3) := by decide +kernel
theorem d_V_product_14 : decode c_V_product 14 = .ok (.iload_n 2, 1) := by decide +kernel
theorem d_V_product_15 : decode c_V_product 15 = .ok (.iconst (-1), 1) := by decide +kernel
theorem d_V_product_16 : decode c_V_product 16 = .ok (.if_icmp .eq (11), 3) := by decide +kernel
theorem d_V_product_19 : decode c_V_product 19 = .ok (.new 57, 3) := by decide +kernel
theorem d_V_product_22 : decode c_V_product 22 = .ok (.dup, 1) := by decide +kernel
theorem d_V_product_23 : decode c_V_product 23 = .ok (.invokespecial 59, 3) := by decide +kernel
theorem d_V_product_26 : decode c_V_product 26 = .ok (.athrow, 1) := by decide +kernel
theorem d_V_product_27 : decode c_V_product 27 = .ok (.iload_n 2, 1) := by decide +kernel
theorem d_V_product_28 : decode c_V_product 28 = .ok (.iconst (-1), 1) := by decide +kernel
theorem d_V_product_29 : decode c_V_product 29 = .ok (.if_icmp .eq (9), 3) := by decide +kernel
theorem d_V_product_32 : decode c_V_product 32 = .ok (.iload_n 1, 1) := by decide +kernel
theorem d_V_product_33 : decode c_V_product 33 = .ok (.iload_n 2, 1) := by decide +kernel
theorem d_V_product_34 : decode c_V_product 34 = .ok (.invokestatic 154, 3) := by decide +kernel
theorem d_V_product_37 : decode c_V_product 37 = .ok (.ireturn, 1) := by decide +kernel
theorem d_V_product_38 : decode c_V_product 38 = .ok (.iload_n 1, 1) := by decide +kernel
theorem d_V_product_39 : decode c_V_product 39 = .ok (.ifCond .ne (11), 3) := by decide +kernel
theorem d_V_product_42 : decode c_V_product 42 = .ok (.new 157, 3) := by decide +kernel
theorem d_V_product_45 : decode c_V_product 45 = .ok (.dup, 1) := by decide +kernel
theorem d_V_product_46 : decode c_V_product 46 = .ok (.invokespecial 159, 3) := by decide +kernel
theorem d_V_product_49 : decode c_V_product 49 = .ok (.athrow, 1) := by decide +kernel
theorem d_V_product_50 : decode c_V_product 50 = .ok (.iload_n 1, 1) := by decide +kernel
theorem d_V_product_51 : decode c_V_product 51 = .ok (.invokestatic 160, 3) := by decide +kernel
theorem d_V_product_54 : decode c_V_product 54 = .ok (.ireturn, 1) := by decide +kernel
theorem d_V_nearest_0 : decode c_V_nearest 0 = .ok (.iconst (1), 1) := by decide +kernel
theorem d_V_nearest_1 : decode c_V_nearest 1 = .ok (.iload_n 0, 1) := by decide +kernel
theorem d_V_nearest_2 : decode c_V_nearest 2 = .ok (.iload_n 1, 1) := by decide +kernel
theorem d_V_nearest_3 : decode c_V_nearest 3 = .ok (.invokestatic 163, 3) := by decide +kernel
theorem d_V_nearest_6 : decode c_V_nearest 6 = .ok (.invokestatic 168, 3) := by decide +kernel
theorem d_V_nearest_9 : decode c_V_nearest 9 = .ok (.ireturn, 1) := by decide +kernel
theorem d_V_isByte_0 : decode c_V_isByte 0 = .ok (.iload_n 0, 1) := by decide +kernel
theorem d_V_isByte_1 : decode c_V_isByte 1 = .ok (.ifCond .lt (14), 3) := by decide +kernel
theorem d_V_isByte_4 : decode c_V_isByte 4 = .ok (.iload_n 0, 1) := by decide +kernel
theorem d_V_isByte_5 : decode c_V_isByte 5 = .ok (.sipush (255), 3) := by decide +kernel
theorem d_V_isByte_8 : decode c_V_isByte 8 = .ok (.if_icmp .gt (7), 3) := by decide +kernel
theorem d_V_isByte_11 : decode c_V_isByte 11 = .ok (.iconst (1), 1) := by decide +kernel
theorem d_V_isByte_12 : decode c_V_isByte 12 = .ok (.goto (4), 3) := by decide +kernel
theorem d_V_isByte_15 : decode c_V_isByte 15 = .ok (.iconst (0), 1) := by decide +kernel
theorem d_V_isByte_16 : decode c_V_isByte 16 = .ok (.ireturn, 1) := by decide +kernel
theorem d_V_isObjectNumber_0 : decode c_V_isObjectNumber 0 = .ok (.iload_n 0, 1) := by decide +kernel
theorem d_V_isObjectNumber_1 : decode c_V_isObjectNumber 1 = .ok (.ifCond .lt (13), 3) := by decide +kernel
theorem d_V_isObjectNumber_4 : decode c_V_isObjectNumber 4 = .ok (.iload_n 0, 1) := by decide +kernel
theorem d_V_isObjectNumber_5 : decode c_V_isObjectNumber 5 = .ok (.bipush (6), 2) := by decide +kernel
theorem d_V_isObjectNumber_7 : decode c_V_isObjectNumber 7 = .ok (.if_icmp .ge (7), 3) := by decide +kernel
theorem d_V_isObjectNumber_10 : decode c_V_isObjectNumber 10 = .ok (.iconst (1), 1) := by decide +kernel
theorem d_V_isObjectNumber_11 : decode c_V_isObjectNumber 11 = .ok (.goto (4), 3) := by decide +kernel
theorem d_V_isObjectNumber_14 : decode c_V_isObjectNumber 14 = .ok (.iconst (0), 1) := by decide +kernel
theorem d_V_isObjectNumber_15 : decode c_V_isObjectNumber 15 = .ok (.ireturn, 1) := by decide +kernel
theorem d_V_isDiskNumber_0 : decode c_V_isDiskNumber 0 = .ok (.iload_n 0, 1) := by decide +kernel
theorem d_V_isDiskNumber_1 : decode c_V_isDiskNumber 1 = .ok (.ifCond .lt (13), 3) := by decide +kernel
theorem d_V_isDiskNumber_4 : decode c_V_isDiskNumber 4 = .ok (.iload_n 0, 1) := by decide +kernel
theorem d_V_isDiskNumber_5 : decode c_V_isDiskNumber 5 = .ok (.bipush (8), 2) := by decide +kernel
theorem d_V_isDiskNumber_7 : decode c_V_isDiskNumber 7 = .ok (.if_icmp .ge (7), 3) := by decide +kernel
theorem d_V_isDiskNumber_10 : decode c_V_isDiskNumber 10 = .ok (.iconst (1), 1) := by decide +kernel
theorem d_V_isDiskNumber_11 : decode c_V_isDiskNumber 11 = .ok (.goto (4), 3) := by decide +kernel
theorem d_V_isDiskNumber_14 : decode c_V_isDiskNumber 14 = .ok (.iconst (0), 1) := by decide +kernel
theorem d_V_isDiskNumber_15 : decode c_V_isDiskNumber 15 = .ok (.ireturn, 1) := by decide +kernel
theorem d_V_placeAt_0 : decode c_V_placeAt 0 = .ok (.bipush (16), 2) := by decide +kernel
theorem d_V_placeAt_2 : decode c_V_placeAt 2 = .ok (.iload_n 0, 1) := by decide +kernel
theorem d_V_placeAt_3 : decode c_V_placeAt 3 = .ok (.imul, 1) := by decide +kernel
theorem d_V_placeAt_4 : decode c_V_placeAt 4 = .ok (.iload_n 1, 1) := by decide +kernel
theorem d_V_placeAt_5 : decode c_V_placeAt 5 = .ok (.iadd, 1) := by decide +kernel
theorem d_V_placeAt_6 : decode c_V_placeAt 6 = .ok (.ireturn, 1) := by decide +kernel
theorem d_V_times_0 : decode c_V_times 0 = .ok (.iconst (0), 1) := by decide +kernel
theorem d_V_times_1 : decode c_V_times 1 = .ok (.istore_n 2, 1) := by decide +kernel
theorem d_V_times_2 : decode c_V_times 2 = .ok (.iload_n 0, 1) := by decide +kernel
theorem d_V_times_3 : decode c_V_times 3 = .ok (.istore_n 3, 1) := by decide +kernel
theorem d_V_times_4 : decode c_V_times 4 = .ok (.iconst (0), 1) := by decide +kernel
theorem d_V_times_5 : decode c_V_times 5 = .ok (.istore 4, 2) := by decide +kernel
theorem d_V_times_7 : decode c_V_times 7 = .ok (.iload 4, 2) := by decide +kernel
theorem d_V_times_9 : decode c_V_times 9 = .ok (.bipush (8), 2) := by decide +kernel
theorem d_V_times_11 : decode c_V_times 11 = .ok (.if_icmp .ge (40), 3) := by decide +kernel
theorem d_V_times_14 : decode c_V_times 14 = .ok (.iload_n 1, 1) := by decide +kernel
theorem d_V_times_15 : decode c_V_times 15 = .ok (.iload 4, 2) := by decide +kernel
theorem d_V_times_17 : decode c_V_times 17 = .ok (.ishr, 1) := by decide +kernel
theorem d_V_times_18 : decode c_V_times 18 = .ok (.iconst (1), 1) := by decide +kernel
theorem d_V_times_19 : decode c_V_times 19 = .ok (.iand, 1) := by decide +kernel
theorem d_V_times_20 : decode c_V_times 20 = .ok (.iconst (1), 1) := by decide +kernel
theorem d_V_times_21 : decode c_V_times 21 = .ok (.if_icmp .ne (7), 3) := by decide +kernel
theorem d_V_times_24 : decode c_V_times 24 = .ok (.iload_n 2, 1) := by decide +kernel
theorem d_V_times_25 : decode c_V_times 25 = .ok (.iload_n 3, 1) := by decide +kernel
theorem d_V_times_26 : decode c_V_times 26 = .ok (.ixor, 1) := by decide +kernel
theorem d_V_times_27 : decode c_V_times 27 = .ok (.istore_n 2, 1) := by decide +kernel
theorem d_V_times_28 : decode c_V_times 28 = .ok (.iload_n 3, 1) := by decide +kernel
theorem d_V_times_29 : decode c_V_times 29 = .ok (.iconst (2), 1) := by decide +kernel
theorem d_V_times_30 : decode c_V_times 30 = .ok (.imul, 1) := by decide +kernel
theorem d_V_times_31 : decode c_V_times 31 = .ok (.istore_n 3, 1) := by decide +kernel
theorem d_V_times_32 : decode c_V_times 32 = .ok (.iload_n 3, 1) := by decide +kernel
theorem d_V_times_33 : decode c_V_times 33 = .ok (.sipush (256), 3) := by decide +kernel
theorem d_V_times_36 : decode c_V_times 36 = .ok (.if_icmp .lt (9), 3) := by decide +kernel
theorem d_V_times_39 : decode c_V_times 39 = .ok (.iload_n 3, 1) := by decide +kernel
theorem d_V_times_40 : decode c_V_times 40 = .ok (.sipush (285), 3) := by decide +kernel
theorem d_V_times_43 : decode c_V_times 43 = .ok (.ixor, 1) := by decide +kernel
theorem d_V_times_44 : decode c_V_times 44 = .ok (.istore_n 3, 1) := by decide +kernel
theorem d_V_times_45 : decode c_V_times 45 = .ok (.iinc 4 (1), 3) := by decide +kernel
theorem d_V_times_48 : decode c_V_times 48 = .ok (.goto (-41), 3) := by decide +kernel
theorem d_V_times_51 : decode c_V_times 51 = .ok (.iload_n 2, 1) := by decide +kernel
theorem d_V_times_52 : decode c_V_times 52 = .ok (.ireturn, 1) := by decide +kernel
theorem d_V_inverse_0 : decode c_V_inverse 0 = .ok (.iload_n 0, 1) := by decide +kernel
theorem d_V_inverse_1 : decode c_V_inverse 1 = .ok (.istore_n 1, 1) := by decide +kernel
theorem d_V_inverse_2 : decode c_V_inverse 2 = .ok (.iconst (1), 1) := by decide +kernel
theorem d_V_inverse_3 : decode c_V_inverse 3 = .ok (.istore_n 2, 1) := by decide +kernel
theorem d_V_inverse_4 : decode c_V_inverse 4 = .ok (.iconst (1), 1) := by decide +kernel
theorem d_V_inverse_5 : decode c_V_inverse 5 = .ok (.istore_n 3, 1) := by decide +kernel
theorem d_V_inverse_6 : decode c_V_inverse 6 = .ok (.iload_n 3, 1) := by decide +kernel
theorem d_V_inverse_7 : decode c_V_inverse 7 = .ok (.bipush (8), 2) := by decide +kernel
theorem d_V_inverse_9 : decode c_V_inverse 9 = .ok (.if_icmp .ge (21), 3) := by decide +kernel
theorem d_V_inverse_12 : decode c_V_inverse 12 = .ok (.iload_n 1, 1) := by decide +kernel
theorem d_V_inverse_13 : decode c_V_inverse 13 = .ok (.iload_n 1, 1) := by decide +kernel
theorem d_V_inverse_14 : decode c_V_inverse 14 = .ok (.invokestatic 154, 3) := by decide +kernel
theorem d_V_inverse_17 : decode c_V_inverse 17 = .ok (.istore_n 1, 1) := by decide +kernel
theorem d_V_inverse_18 : decode c_V_inverse 18 = .ok (.iload_n 2, 1) := by decide +kernel
theorem d_V_inverse_19 : decode c_V_inverse 19 = .ok (.iload_n 1, 1) := by decide +kernel
theorem d_V_inverse_20 : decode c_V_inverse 20 = .ok (.invokestatic 154, 3) := by decide +kernel
theorem d_V_inverse_23 : decode c_V_inverse 23 = .ok (.istore_n 2, 1) := by decide +kernel
theorem d_V_inverse_24 : decode c_V_inverse 24 = .ok (.iinc 3 (1), 3) := by decide +kernel
theorem d_V_inverse_27 : decode c_V_inverse 27 = .ok (.goto (-21), 3) := by decide +kernel
theorem d_V_inverse_30 : decode c_V_inverse 30 = .ok (.iload_n 2, 1) := by decide +kernel
theorem d_V_inverse_31 : decode c_V_inverse 31 = .ok (.ireturn, 1) := by decide +kernel
theorem d_V_requireObject_0 : decode c_V_requireObject 0 = .ok (.iload_n 1, 1) := by decide +kernel
theorem d_V_requireObject_1 : decode c_V_requireObject 1 = .ok (.invokestatic 50, 3) := by decide +kernel
theorem d_V_requireObject_4 : decode c_V_requireObject 4 = .ok (.ifCond .eq (14), 3) := by decide +kernel
theorem d_V_requireObject_7 : decode c_V_requireObject 7 = .ok (.aload_n 0, 1) := by decide +kernel
theorem d_V_requireObject_8 : decode c_V_requireObject 8 = .ok (.getfield 32, 3) := by decide +kernel
theorem d_V_requireObject_11 : decode c_V_requireObject 11 = .ok (.iload_n 1, 1) := by decide +kernel
theorem d_V_requireObject_12 : decode c_V_requireObject 12 = .ok (.invokevirtual 54, 3) := by decide +kernel
theorem d_V_requireObject_15 : decode c_V_requireObject 15 = .ok (.ifCond .ne (11), 3) := by decide +kernel
theorem d_V_requireObject_18 : decode c_V_requireObject 18 = .ok (.new 171, 3) := by decide +kernel
theorem d_V_requireObject_21 : decode c_V_requireObject 21 = .ok (.dup, 1) := by decide +kernel
theorem d_V_requireObject_22 : decode c_V_requireObject 22 = .ok (.invokespecial 173, 3) := by decide +kernel
theorem d_V_requireObject_25 : decode c_V_requireObject 25 = .ok (.athrow, 1) := by decide +kernel
theorem d_V_requireObject_26 : decode c_V_requireObject 26 = .ok (.return_, 1) := by decide +kernel
theorem d_V_requireDisk_0 : decode c_V_requireDisk 0 = .ok (.iload_n 1, 1) := by decide +kernel
theorem d_V_requireDisk_1 : decode c_V_requireDisk 1 = .ok (.invokestatic 148, 3) := by decide +kernel
theorem d_V_requireDisk_4 : decode c_V_requireDisk 4 = .ok (.ifCond .ne (11), 3) := by decide +kernel
theorem d_V_requireDisk_7 : decode c_V_requireDisk 7 = .ok (.new 57, 3) := by decide +kernel
theorem d_V_requireDisk_10 : decode c_V_requireDisk 10 = .ok (.dup, 1) := by decide +kernel
theorem d_V_requireDisk_11 : decode c_V_requireDisk 11 = .ok (.invokespecial 59, 3) := by decide +kernel
theorem d_V_requireDisk_14 : decode c_V_requireDisk 14 = .ok (.athrow, 1) := by decide +kernel
theorem d_V_requireDisk_15 : decode c_V_requireDisk 15 = .ok (.return_, 1) := by decide +kernel
theorem d_V_requireStoredByte_0 : decode c_V_requireStoredByte 0 = .ok (.aload_n 0, 1) := by decide +kernel
theorem d_V_requireStoredByte_1 : decode c_V_requireStoredByte 1 = .ok (.iload_n 1, 1) := by decide +kernel
theorem d_V_requireStoredByte_2 : decode c_V_requireStoredByte 2 = .ok (.invokevirtual 98, 3) := by decide +kernel
theorem d_V_requireStoredByte_5 : decode c_V_requireStoredByte 5 = .ok (.iload_n 2, 1) := by decide +kernel
theorem d_V_requireStoredByte_6 : decode c_V_requireStoredByte 6 = .ok (.ifCond .lt (18), 3) := by decide +kernel
theorem d_V_requireStoredByte_9 : decode c_V_requireStoredByte 9 = .ok (.iload_n 2, 1) := by decide +kernel
theorem d_V_requireStoredByte_10 : decode c_V_requireStoredByte 10 = .ok (.bipush (10), 2) := by decide +kernel
theorem d_V_requireStoredByte_12 : decode c_V_requireStoredByte 12 = .ok (.if_icmp .ge (12), 3) := by decide +kernel
theorem d_V_requireStoredByte_15 : decode c_V_requireStoredByte 15 = .ok (.iload_n 3, 1) := by decide +kernel
theorem d_V_requireStoredByte_16 : decode c_V_requireStoredByte 16 = .ok (.ifCond .lt (8), 3) := by decide +kernel
theorem d_V_requireStoredByte_19 : decode c_V_requireStoredByte 19 = .ok (.iload_n 3, 1) := by decide +kernel
theorem d_V_requireStoredByte_20 : decode c_V_requireStoredByte 20 = .ok (.iconst (4), 1) := by decide +kernel
theorem d_V_requireStoredByte_21 : decode c_V_requireStoredByte 21 = .ok (.if_icmp .lt (11), 3) := by decide +kernel
theorem d_V_requireStoredByte_24 : decode c_V_requireStoredByte 24 = .ok (.new 57, 3) := by decide +kernel
theorem d_V_requireStoredByte_27 : decode c_V_requireStoredByte 27 = .ok (.dup, 1) := by decide +kernel
theorem d_V_requireStoredByte_28 : decode c_V_requireStoredByte 28 = .ok (.invokespecial 59, 3) := by decide +kernel
theorem d_V_requireStoredByte_31 : decode c_V_requireStoredByte 31 = .ok (.athrow, 1) := by decide +kernel
theorem d_V_requireStoredByte_32 : decode c_V_requireStoredByte 32 = .ok (.aload_n 0, 1) := by decide +kernel
theorem d_V_requireStoredByte_33 : decode c_V_requireStoredByte 33 = .ok (.getfield 25, 3) := by decide +kernel
theorem d_V_requireStoredByte_36 : decode c_V_requireStoredByte 36 = .ok (.iload_n 1, 1) := by decide +kernel
theorem d_V_requireStoredByte_37 : decode c_V_requireStoredByte 37 = .ok (.iload_n 2, 1) := by decide +kernel
theorem d_V_requireStoredByte_38 : decode c_V_requireStoredByte 38 = .ok (.invokestatic 133, 3) := by decide +kernel
theorem d_V_requireStoredByte_41 : decode c_V_requireStoredByte 41 = .ok (.invokevirtual 174, 3) := by decide +kernel
theorem d_V_requireStoredByte_44 : decode c_V_requireStoredByte 44 = .ok (.ifCond .ne (11), 3) := by decide +kernel
theorem d_V_requireStoredByte_47 : decode c_V_requireStoredByte 47 = .ok (.new 171, 3) := by decide +kernel
theorem d_V_requireStoredByte_50 : decode c_V_requireStoredByte 50 = .ok (.dup, 1) := by decide +kernel
theorem d_V_requireStoredByte_51 : decode c_V_requireStoredByte 51 = .ok (.invokespecial 173, 3) := by decide +kernel
theorem d_V_requireStoredByte_54 : decode c_V_requireStoredByte 54 = .ok (.athrow, 1) := by decide +kernel
theorem d_V_requireStoredByte_55 : decode c_V_requireStoredByte 55 = .ok (.return_, 1) := by decide +kernel
theorem d_V_placeDraft_0 : decode c_V_placeDraft 0 = .ok (.iconst (0), 1) := by decide +kernel
theorem d_V_placeDraft_1 : decode c_V_placeDraft 1 = .ok (.istore_n 2, 1) := by decide +kernel
theorem d_V_placeDraft_2 : decode c_V_placeDraft 2 = .ok (.iload_n 2, 1) := by decide +kernel
theorem d_V_placeDraft_3 : decode c_V_placeDraft 3 = .ok (.aload_n 0, 1) := by decide +kernel
theorem d_V_placeDraft_4 : decode c_V_placeDraft 4 = .ok (.getfield 32, 3) := by decide +kernel
theorem d_V_placeDraft_7 : decode c_V_placeDraft 7 = .ok (.iload_n 1, 1) := by decide +kernel
theorem d_V_placeDraft_8 : decode c_V_placeDraft 8 = .ok (.invokevirtual 73, 3) := by decide +kernel
theorem d_V_placeDraft_11 : decode c_V_placeDraft 11 = .ok (.if_icmp .ge (57), 3) := by decide +kernel
theorem d_V_placeDraft_14 : decode c_V_placeDraft 14 = .ok (.aload_n 0, 1) := by decide +kernel
theorem d_V_placeDraft_15 : decode c_V_placeDraft 15 = .ok (.iload_n 2, 1) := by decide +kernel
theorem d_V_placeDraft_16 : decode c_V_placeDraft 16 = .ok (.invokevirtual 177, 3) := by decide +kernel
theorem d_V_placeDraft_19 : decode c_V_placeDraft 19 = .ok (.aload_n 0, 1) := by decide +kernel
theorem d_V_placeDraft_20 : decode c_V_placeDraft 20 = .ok (.getfield 32, 3) := by decide +kernel
theorem d_V_placeDraft_23 : decode c_V_placeDraft 23 = .ok (.iload_n 1, 1) := by decide +kernel
theorem d_V_placeDraft_24 : decode c_V_placeDraft 24 = .ok (.iload_n 2, 1) := by decide +kernel
theorem d_V_placeDraft_25 : decode c_V_placeDraft 25 = .ok (.invokevirtual 83, 3) := by decide +kernel
theorem d_V_placeDraft_28 : decode c_V_placeDraft 28 = .ok (.istore_n 3, 1) := by decide +kernel
theorem d_V_placeDraft_29 : decode c_V_placeDraft 29 = .ok (.iconst (0), 1) := by decide +kernel
theorem d_V_placeDraft_30 : decode c_V_placeDraft 30 = .ok (.istore 4, 2) := by decide +kernel
theorem d_V_placeDraft_32 : decode c_V_placeDraft 32 = .ok (.iload 4, 2) := by decide +kernel
theorem d_V_placeDraft_34 : decode c_V_placeDraft 34 = .ok (.aload_n 0, 1) := by decide +kernel
theorem d_V_placeDraft_35 : decode c_V_placeDraft 35 = .ok (.getfield 18, 3) := by decide +kernel
theorem d_V_placeDraft_38 : decode c_V_placeDraft 38 = .ok (.getfield 142, 3) := by decide +kernel
theorem d_V_placeDraft_41 : decode c_V_placeDraft 41 = .ok (.if_icmp .ge (21), 3) := by decide +kernel
theorem d_V_placeDraft_44 : decode c_V_placeDraft 44 = .ok (.aload_n 0, 1) := by decide +kernel
theorem d_V_placeDraft_45 : decode c_V_placeDraft 45 = .ok (.iload_n 3, 1) := by decide +kernel
theorem d_V_placeDraft_46 : decode c_V_placeDraft 46 = .ok (.iload 4, 2) := by decide +kernel
theorem d_V_placeDraft_48 : decode c_V_placeDraft 48 = .ok (.invokevirtual 180, 3) := by decide +kernel
theorem d_V_placeDraft_51 : decode c_V_placeDraft 51 = .ok (.ifCond .ne (5), 3) := by decide +kernel
theorem d_V_placeDraft_54 : decode c_V_placeDraft 54 = .ok (.iconst (0), 1) := by decide +kernel
theorem d_V_placeDraft_55 : decode c_V_placeDraft 55 = .ok (.ireturn, 1) := by decide +kernel
theorem d_V_placeDraft_56 : decode c_V_placeDraft 56 = .ok (.iinc 4 (1), 3) := by decide +kernel
theorem d_V_placeDraft_59 : decode c_V_placeDraft 59 = .ok (.goto (-27), 3) := by decide +kernel
theorem d_V_placeDraft_62 : decode c_V_placeDraft 62 = .ok (.iinc 2 (1), 3) := by decide +kernel
theorem d_V_placeDraft_65 : decode c_V_placeDraft 65 = .ok (.goto (-63), 3) := by decide +kernel
theorem d_V_placeDraft_68 : decode c_V_placeDraft 68 = .ok (.iconst (1), 1) := by decide +kernel
theorem d_V_placeDraft_69 : decode c_V_placeDraft 69 = .ok (.ireturn, 1) := by decide +kernel
theorem d_V_takeDataFromDraft_0 : decode c_V_takeDataFromDraft 0 = .ok (.iload_n 1, 1) := by decide +kernel
theorem d_V_takeDataFromDraft_1 : decode c_V_takeDataFromDraft 1 = .ok (.aload_n 0, 1) := by decide +kernel
theorem d_V_takeDataFromDraft_2 : decode c_V_takeDataFromDraft 2 = .ok (.getfield 18, 3) := by decide +kernel
theorem d_V_takeDataFromDraft_5 : decode c_V_takeDataFromDraft 5 = .ok (.getfield 184, 3) := by decide +kernel
theorem d_V_takeDataFromDraft_8 : decode c_V_takeDataFromDraft 8 = .ok (.imul, 1) := by decide +kernel
theorem d_V_takeDataFromDraft_9 : decode c_V_takeDataFromDraft 9 = .ok (.istore_n 2, 1) := by decide +kernel
theorem d_V_takeDataFromDraft_10 : decode c_V_takeDataFromDraft 10 = .ok (.iconst (0), 1) := by decide +kernel
theorem d_V_takeDataFromDraft_11 : decode c_V_takeDataFromDraft 11 = .ok (.istore_n 3, 1) := by decide +kernel
theorem d_V_takeDataFromDraft_12 : decode c_V_takeDataFromDraft 12 = .ok (.iload_n 3, 1) := by decide +kernel
theorem d_V_takeDataFromDraft_13 : decode c_V_takeDataFromDraft 13 = .ok (.aload_n 0, 1) := by decide +kernel
theorem d_V_takeDataFromDraft_14 : decode c_V_takeDataFromDraft 14 = .ok (.getfield 18, 3) := by decide +kernel
theorem d_V_takeDataFromDraft_17 : decode c_V_takeDataFromDraft 17 = .ok (.getfield 184, 3) := by decide +kernel
theorem d_V_takeDataFromDraft_20 : decode c_V_takeDataFromDraft 20 = .ok (.if_icmp .ge (40), 3) := by decide +kernel
theorem d_V_takeDataFromDraft_23 : decode c_V_takeDataFromDraft 23 = .ok (.aload_n 0, 1) := by decide +kernel
theorem d_V_takeDataFromDraft_24 : decode c_V_takeDataFromDraft 24 = .ok (.getfield 18, 3) := by decide +kernel
theorem d_V_takeDataFromDraft_27 : decode c_V_takeDataFromDraft 27 = .ok (.getfield 187, 3) := by decide +kernel
theorem d_V_takeDataFromDraft_30 : decode c_V_takeDataFromDraft 30 = .ok (.iload_n 3, 1) := by decide +kernel
theorem d_V_takeDataFromDraft_31 : decode c_V_takeDataFromDraft 31 = .ok (.iload_n 2, 1) := by decide +kernel
theorem d_V_takeDataFromDraft_32 : decode c_V_takeDataFromDraft 32 = .ok (.iload_n 3, 1) := by decide +kernel
theorem d_V_takeDataFromDraft_33 : decode c_V_takeDataFromDraft 33 = .ok (.iadd, 1) := by decide +kernel
theorem d_V_takeDataFromDraft_34 : decode c_V_takeDataFromDraft 34 = .ok (.aload_n 0, 1) := by decide +kernel
theorem d_V_takeDataFromDraft_35 : decode c_V_takeDataFromDraft 35 = .ok (.getfield 40, 3) := by decide +kernel
theorem d_V_takeDataFromDraft_38 : decode c_V_takeDataFromDraft 38 = .ok (.if_icmp .ge (14), 3) := by decide +kernel
theorem d_V_takeDataFromDraft_41 : decode c_V_takeDataFromDraft 41 = .ok (.aload_n 0, 1) := by decide +kernel
theorem d_V_takeDataFromDraft_42 : decode c_V_takeDataFromDraft 42 = .ok (.getfield 36, 3) := by decide +kernel
theorem d_V_takeDataFromDraft_45 : decode c_V_takeDataFromDraft 45 = .ok (.iload_n 2, 1) := by decide +kernel
theorem d_V_takeDataFromDraft_46 : decode c_V_takeDataFromDraft 46 = .ok (.iload_n 3, 1) := by decide +kernel
theorem d_V_takeDataFromDraft_47 : decode c_V_takeDataFromDraft 47 = .ok (.iadd, 1) := by decide +kernel
theorem d_V_takeDataFromDraft_48 : decode c_V_takeDataFromDraft 48 = .ok (.iaload, 1) := by decide +kernel
theorem d_V_takeDataFromDraft_49 : decode c_V_takeDataFromDraft 49 = .ok (.goto (4), 3) := by decide +kernel
theorem d_V_takeDataFromDraft_52 : decode c_V_takeDataFromDraft 52 = .ok (.iconst (0), 1) := by decide +kernel
theorem d_V_takeDataFromDraft_53 : decode c_V_takeDataFromDraft 53 = .ok (.iastore, 1) := by decide +kernel
theorem d_V_takeDataFromDraft_54 : decode c_V_takeDataFromDraft 54 = .ok (.iinc 3 (1), 3) := by decide +kernel
theorem d_V_takeDataFromDraft_57 : decode c_V_takeDataFromDraft 57 = .ok (.goto (-45), 3) := by decide +kernel
theorem d_V_takeDataFromDraft_60 : decode c_V_takeDataFromDraft 60 = .ok (.return_, 1) := by decide +kernel
theorem d_V_copyDataToOutput_0 : decode c_V_copyDataToOutput 0 = .ok (.iload_n 1, 1) := by decide +kernel
theorem d_V_copyDataToOutput_1 : decode c_V_copyDataToOutput 1 = .ok (.aload_n 0, 1) := by decide +kernel
theorem d_V_copyDataToOutput_2 : decode c_V_copyDataToOutput 2 = .ok (.getfield 18, 3) := by decide +kernel
theorem d_V_copyDataToOutput_5 : decode c_V_copyDataToOutput 5 = .ok (.getfield 184, 3) := by decide +kernel
theorem d_V_copyDataToOutput_8 : decode c_V_copyDataToOutput 8 = .ok (.imul, 1) := by decide +kernel
theorem d_V_copyDataToOutput_9 : decode c_V_copyDataToOutput 9 = .ok (.istore_n 2, 1) := by decide +kernel
theorem d_V_copyDataToOutput_10 : decode c_V_copyDataToOutput 10 = .ok (.iconst (0), 1) := by decide +kernel
theorem d_V_copyDataToOutput_11 : decode c_V_copyDataToOutput 11 = .ok (.istore_n 3, 1) := by decide +kernel
theorem d_V_copyDataToOutput_12 : decode c_V_copyDataToOutput 12 = .ok (.iload_n 3, 1) := by decide +kernel
theorem d_V_copyDataToOutput_13 : decode c_V_copyDataToOutput 13 = .ok (.aload_n 0, 1) := by decide +kernel
theorem d_V_copyDataToOutput_14 : decode c_V_copyDataToOutput 14 = .ok (.getfield 18, 3) := by decide +kernel
theorem d_V_copyDataToOutput_17 : decode c_V_copyDataToOutput 17 = .ok (.getfield 184, 3) := by decide +kernel
theorem d_V_copyDataToOutput_20 : decode c_V_copyDataToOutput 20 = .ok (.if_icmp .ge (34), 3) := by decide +kernel
theorem d_V_copyDataToOutput_23 : decode c_V_copyDataToOutput 23 = .ok (.iload_n 2, 1) := by decide +kernel
theorem d_V_copyDataToOutput_24 : decode c_V_copyDataToOutput 24 = .ok (.iload_n 3, 1) := by decide +kernel
theorem d_V_copyDataToOutput_25 : decode c_V_copyDataToOutput 25 = .ok (.iadd, 1) := by decide +kernel
theorem d_V_copyDataToOutput_26 : decode c_V_copyDataToOutput 26 = .ok (.bipush (32), 2) := by decide +kernel
theorem d_V_copyDataToOutput_28 : decode c_V_copyDataToOutput 28 = .ok (.if_icmp .ge (26), 3) := by decide +kernel
theorem d_V_copyDataToOutput_31 : decode c_V_copyDataToOutput 31 = .ok (.aload_n 0, 1) := by decide +kernel
theorem d_V_copyDataToOutput_32 : decode c_V_copyDataToOutput 32 = .ok (.getfield 44, 3) := by decide +kernel
theorem d_V_copyDataToOutput_35 : decode c_V_copyDataToOutput 35 = .ok (.iload_n 2, 1) := by decide +kernel
theorem d_V_copyDataToOutput_36 : decode c_V_copyDataToOutput 36 = .ok (.iload_n 3, 1) := by decide +kernel
theorem d_V_copyDataToOutput_37 : decode c_V_copyDataToOutput 37 = .ok (.iadd, 1) := by decide +kernel
theorem d_V_copyDataToOutput_38 : decode c_V_copyDataToOutput 38 = .ok (.aload_n 0, 1) := by decide +kernel
theorem d_V_copyDataToOutput_39 : decode c_V_copyDataToOutput 39 = .ok (.getfield 18, 3) := by decide +kernel
theorem d_V_copyDataToOutput_42 : decode c_V_copyDataToOutput 42 = .ok (.getfield 187, 3) := by decide +kernel
theorem d_V_copyDataToOutput_45 : decode c_V_copyDataToOutput 45 = .ok (.iload_n 3, 1) := by decide +kernel
theorem d_V_copyDataToOutput_46 : decode c_V_copyDataToOutput 46 = .ok (.iaload, 1) := by decide +kernel
theorem d_V_copyDataToOutput_47 : decode c_V_copyDataToOutput 47 = .ok (.iastore, 1) := by decide +kernel
theorem d_V_copyDataToOutput_48 : decode c_V_copyDataToOutput 48 = .ok (.iinc 3 (1), 3) := by decide +kernel
theorem d_V_copyDataToOutput_51 : decode c_V_copyDataToOutput 51 = .ok (.goto (-39), 3) := by decide +kernel
theorem d_V_copyDataToOutput_54 : decode c_V_copyDataToOutput 54 = .ok (.return_, 1) := by decide +kernel
theorem d_V_placeShard_0 : decode c_V_placeShard 0 = .ok (.aload_n 0, 1) := by decide +kernel
theorem d_V_placeShard_1 : decode c_V_placeShard 1 = .ok (.iload_n 1, 1) := by decide +kernel
theorem d_V_placeShard_2 : decode c_V_placeShard 2 = .ok (.invokevirtual 190, 3) := by decide +kernel
theorem d_V_placeShard_5 : decode c_V_placeShard 5 = .ok (.istore_n 3, 1) := by decide +kernel
theorem d_V_placeShard_6 : decode c_V_placeShard 6 = .ok (.iload_n 3, 1) := by decide +kernel
theorem d_V_placeShard_7 : decode c_V_placeShard 7 = .ok (.iconst (-1), 1) := by decide +kernel
theorem d_V_placeShard_8 : decode c_V_placeShard 8 = .ok (.if_icmp .ne (7), 3) := by decide +kernel
theorem d_V_placeShard_11 : decode c_V_placeShard 11 = .ok (.iconst (-1), 1) := by decide +kernel
theorem d_V_placeShard_12 : decode c_V_placeShard 12 = .ok (.goto (11), 3) := by decide +kernel
theorem d_V_placeShard_15 : decode c_V_placeShard 15 = .ok (.aload_n 0, 1) := by decide +kernel
theorem d_V_placeShard_16 : decode c_V_placeShard 16 = .ok (.getfield 25, 3) := by decide +kernel
theorem d_V_placeShard_19 : decode c_V_placeShard 19 = .ok (.iload_n 3, 1) := by decide +kernel
theorem d_V_placeShard_20 : decode c_V_placeShard 20 = .ok (.invokevirtual 193, 3) := by decide +kernel
theorem d_V_placeShard_23 : decode c_V_placeShard 23 = .ok (.istore 4, 2) := by decide +kernel
theorem d_V_placeShard_25 : decode c_V_placeShard 25 = .ok (.iload 4, 2) := by decide +kernel
theorem d_V_placeShard_27 : decode c_V_placeShard 27 = .ok (.iconst (-1), 1) := by decide +kernel
theorem d_V_placeShard_28 : decode c_V_placeShard 28 = .ok (.if_icmp .ne (5), 3) := by decide +kernel
theorem d_V_placeShard_31 : decode c_V_placeShard 31 = .ok (.iconst (0), 1) := by decide +kernel
theorem d_V_placeShard_32 : decode c_V_placeShard 32 = .ok (.ireturn, 1) := by decide +kernel
theorem d_V_placeShard_33 : decode c_V_placeShard 33 = .ok (.iconst (0), 1) := by decide +kernel
theorem d_V_placeShard_34 : decode c_V_placeShard 34 = .ok (.istore 5, 2) := by decide +kernel
theorem d_V_placeShard_36 : decode c_V_placeShard 36 = .ok (.iload 5, 2) := by decide +kernel
theorem d_V_placeShard_38 : decode c_V_placeShard 38 = .ok (.iconst (4), 1) := by decide +kernel
theorem d_V_placeShard_39 : decode c_V_placeShard 39 = .ok (.if_icmp .ge (30), 3) := by decide +kernel
theorem d_V_placeShard_42 : decode c_V_placeShard 42 = .ok (.aload_n 0, 1) := by decide +kernel
theorem d_V_placeShard_43 : decode c_V_placeShard 43 = .ok (.getfield 25, 3) := by decide +kernel
theorem d_V_placeShard_46 : decode c_V_placeShard 46 = .ok (.iload 4, 2) := by decide +kernel
theorem d_V_placeShard_48 : decode c_V_placeShard 48 = .ok (.iload 5, 2) := by decide +kernel
theorem d_V_placeShard_50 : decode c_V_placeShard 50 = .ok (.aload_n 0, 1) := by decide +kernel
theorem d_V_placeShard_51 : decode c_V_placeShard 51 = .ok (.getfield 18, 3) := by decide +kernel
theorem d_V_placeShard_54 : decode c_V_placeShard 54 = .ok (.iload_n 2, 1) := by decide +kernel
theorem d_V_placeShard_55 : decode c_V_placeShard 55 = .ok (.iload 5, 2) := by decide +kernel
theorem d_V_placeShard_57 : decode c_V_placeShard 57 = .ok (.invokevirtual 196, 3) := by decide +kernel
theorem d_V_placeShard_60 : decode c_V_placeShard 60 = .ok (.invokevirtual 139, 3) := by decide +kernel
theorem d_V_placeShard_63 : decode c_V_placeShard 63 = .ok (.iinc 5 (1), 3) := by decide +kernel
theorem d_V_placeShard_66 : decode c_V_placeShard 66 = .ok (.goto (-30), 3) := by decide +kernel
theorem d_V_placeShard_69 : decode c_V_placeShard 69 = .ok (.aload_n 0, 1) := by decide +kernel
theorem d_V_placeShard_70 : decode c_V_placeShard 70 = .ok (.getfield 32, 3) := by decide +kernel
theorem d_V_placeShard_73 : decode c_V_placeShard 73 = .ok (.iload_n 1, 1) := by decide +kernel
theorem d_V_placeShard_74 : decode c_V_placeShard 74 = .ok (.iload_n 2, 1) := by decide +kernel
theorem d_V_placeShard_75 : decode c_V_placeShard 75 = .ok (.iload 4, 2) := by decide +kernel
theorem d_V_placeShard_77 : decode c_V_placeShard 77 = .ok (.invokevirtual 199, 3) := by decide +kernel
theorem d_V_placeShard_80 : decode c_V_placeShard 80 = .ok (.iconst (1), 1) := by decide +kernel
theorem d_V_placeShard_81 : decode c_V_placeShard 81 = .ok (.ireturn, 1) := by decide +kernel
theorem d_V_roomiestDiskFor_0 : decode c_V_roomiestDiskFor 0 = .ok (.iconst (-1), 1) := by decide +kernel
theorem d_V_roomiestDiskFor_1 : decode c_V_roomiestDiskFor 1 = .ok (.istore_n 2, 1) := by decide +kernel
theorem d_V_roomiestDiskFor_2 : decode c_V_roomiestDiskFor 2 = .ok (.iconst (0), 1) := by decide +kernel
theorem d_V_roomiestDiskFor_3 : decode c_V_roomiestDiskFor 3 = .ok (.istore_n 3, 1) := by decide +kernel
theorem d_V_roomiestDiskFor_4 : decode c_V_roomiestDiskFor 4 = .ok (.iconst (0), 1) := by decide +kernel
theorem d_V_roomiestDiskFor_5 : decode c_V_roomiestDiskFor 5 = .ok (.istore 4, 2) := by decide +kernel
theorem d_V_roomiestDiskFor_7 : decode c_V_roomiestDiskFor 7 = .ok (.iload 4, 2) := by decide +kernel
theorem d_V_roomiestDiskFor_9 : decode c_V_roomiestDiskFor 9 = .ok (.bipush (8), 2) := by decide +kernel
theorem d_V_roomiestDiskFor_11 : decode c_V_roomiestDiskFor 11 = .ok (.if_icmp .ge (57), 3) := by decide +kernel
theorem d_V_roomiestDiskFor_14 : decode c_V_roomiestDiskFor 14 = .ok (.aload_n 0, 1) := by decide +kernel
theorem d_V_roomiestDiskFor_15 : decode c_V_roomiestDiskFor 15 = .ok (.getfield 25, 3) := by decide +kernel
theorem d_V_roomiestDiskFor_18 : decode c_V_roomiestDiskFor 18 = .ok (.iload 4, 2) := by decide +kernel
theorem d_V_roomiestDiskFor_20 : decode c_V_roomiestDiskFor 20 = .ok (.invokevirtual 104, 3) := by decide +kernel
theorem d_V_roomiestDiskFor_23 : decode c_V_roomiestDiskFor 23 = .ok (.istore 5, 2) := by decide +kernel
theorem d_V_roomiestDiskFor_25 : decode c_V_roomiestDiskFor 25 = .ok (.aload_n 0, 1) := by decide +kernel
theorem d_V_roomiestDiskFor_26 : decode c_V_roomiestDiskFor 26 = .ok (.getfield 25, 3) := by decide +kernel
theorem d_V_roomiestDiskFor_29 : decode c_V_roomiestDiskFor 29 = .ok (.iload 4, 2) := by decide +kernel
theorem d_V_roomiestDiskFor_31 : decode c_V_roomiestDiskFor 31 = .ok (.invokevirtual 101, 3) := by decide +kernel
theorem d_V_roomiestDiskFor_34 : decode c_V_roomiestDiskFor 34 = .ok (.ifCond .eq (28), 3) := by decide +kernel
theorem d_V_roomiestDiskFor_37 : decode c_V_roomiestDiskFor 37 = .ok (.iload 5, 2) := by decide +kernel
theorem d_V_roomiestDiskFor_39 : decode c_V_roomiestDiskFor 39 = .ok (.iload_n 3, 1) := by decide +kernel
theorem d_V_roomiestDiskFor_40 : decode c_V_roomiestDiskFor 40 = .ok (.if_icmp .le (22), 3) := by decide +kernel
theorem d_V_roomiestDiskFor_43 : decode c_V_roomiestDiskFor 43 = .ok (.aload_n 0, 1) := by decide +kernel
theorem d_V_roomiestDiskFor_44 : decode c_V_roomiestDiskFor 44 = .ok (.getfield 32, 3) := by decide +kernel
theorem d_V_roomiestDiskFor_47 : decode c_V_roomiestDiskFor 47 = .ok (.iload_n 1, 1) := by decide +kernel
theorem d_V_roomiestDiskFor_48 : decode c_V_roomiestDiskFor 48 = .ok (.iload 4, 2) := by decide +kernel
theorem d_V_roomiestDiskFor_50 : decode c_V_roomiestDiskFor 50 = .ok (.invokevirtual 202, 3) := by decide +kernel
theorem d_V_roomiestDiskFor_53 : decode c_V_roomiestDiskFor 53 = .ok (.ifCond .ne (9), 3) := by decide +kernel
theorem d_V_roomiestDiskFor_56 : decode c_V_roomiestDiskFor 56 = .ok (.iload 4, 2) := by decide +kernel
theorem d_V_roomiestDiskFor_58 : decode c_V_roomiestDiskFor 58 = .ok (.istore_n 2, 1) := by decide +kernel
theorem d_V_roomiestDiskFor_59 : decode c_V_roomiestDiskFor 59 = .ok (.iload 5, 2) := by decide +kernel
theorem d_V_roomiestDiskFor_61 : decode c_V_roomiestDiskFor 61 = .ok (.istore_n 3, 1) := by decide +kernel
theorem d_V_roomiestDiskFor_62 : decode c_V_roomiestDiskFor 62 = .ok (.iinc 4 (1), 3) := by decide +kernel
theorem d_V_roomiestDiskFor_65 : decode c_V_roomiestDiskFor 65 = .ok (.goto (-58), 3) := by decide +kernel
theorem d_V_roomiestDiskFor_68 : decode c_V_roomiestDiskFor 68 = .ok (.iload_n 2, 1) := by decide +kernel
theorem d_V_roomiestDiskFor_69 : decode c_V_roomiestDiskFor 69 = .ok (.ireturn, 1) := by decide +kernel
theorem d_V_releaseObject_0 : decode c_V_releaseObject 0 = .ok (.iconst (0), 1) := by decide +kernel
theorem d_V_releaseObject_1 : decode c_V_releaseObject 1 = .ok (.istore_n 2, 1) := by decide +kernel
theorem d_V_releaseObject_2 : decode c_V_releaseObject 2 = .ok (.iconst (0), 1) := by decide +kernel
theorem d_V_releaseObject_3 : decode c_V_releaseObject 3 = .ok (.istore_n 3, 1) := by decide +kernel
theorem d_V_releaseObject_4 : decode c_V_releaseObject 4 = .ok (.iload_n 3, 1) := by decide +kernel
theorem d_V_releaseObject_5 : decode c_V_releaseObject 5 = .ok (.aload_n 0, 1) := by decide +kernel
theorem d_V_releaseObject_6 : decode c_V_releaseObject 6 = .ok (.getfield 32, 3) := by decide +kernel
theorem d_V_releaseObject_9 : decode c_V_releaseObject 9 = .ok (.iload_n 1, 1) := by decide +kernel
theorem d_V_releaseObject_10 : decode c_V_releaseObject 10 = .ok (.invokevirtual 73, 3) := by decide +kernel
theorem d_V_releaseObject_13 : decode c_V_releaseObject 13 = .ok (.if_icmp .ge (84), 3) := by decide +kernel
theorem d_V_releaseObject_16 : decode c_V_releaseObject 16 = .ok (.aload_n 0, 1) := by decide +kernel
theorem d_V_releaseObject_17 : decode c_V_releaseObject 17 = .ok (.getfield 32, 3) := by decide +kernel
theorem d_V_releaseObject_20 : decode c_V_releaseObject 20 = .ok (.iload_n 1, 1) := by decide +kernel
theorem d_V_releaseObject_21 : decode c_V_releaseObject 21 = .ok (.iload_n 3, 1) := by decide +kernel
theorem d_V_releaseObject_22 : decode c_V_releaseObject 22 = .ok (.invokevirtual 83, 3) := by decide +kernel
theorem d_V_releaseObject_25 : decode c_V_releaseObject 25 = .ok (.istore 4, 2) := by decide +kernel
theorem d_V_releaseObject_27 : decode c_V_releaseObject 27 = .ok (.iconst (0), 1) := by decide +kernel
theorem d_V_releaseObject_28 : decode c_V_releaseObject 28 = .ok (.istore 5, 2) := by decide +kernel
theorem d_V_releaseObject_30 : decode c_V_releaseObject 30 = .ok (.iload 5, 2) := by decide +kernel
theorem d_V_releaseObject_32 : decode c_V_releaseObject 32 = .ok (.aload_n 0, 1) := by decide +kernel
theorem d_V_releaseObject_33 : decode c_V_releaseObject 33 = .ok (.getfield 18, 3) := by decide +kernel
theorem d_V_releaseObject_36 : decode c_V_releaseObject 36 = .ok (.getfield 142, 3) := by decide +kernel
theorem d_V_releaseObject_39 : decode c_V_releaseObject 39 = .ok (.if_icmp .ge (52), 3) := by decide +kernel
theorem d_V_releaseObject_42 : decode c_V_releaseObject 42 = .ok (.aload_n 0, 1) := by decide +kernel
theorem d_V_releaseObject_43 : decode c_V_releaseObject 43 = .ok (.getfield 32, 3) := by decide +kernel
theorem d_V_releaseObject_46 : decode c_V_releaseObject 46 = .ok (.iload 4, 2) := by decide +kernel
theorem d_V_releaseObject_48 : decode c_V_releaseObject 48 = .ok (.iload 5, 2) := by decide +kernel
theorem d_V_releaseObject_50 : decode c_V_releaseObject 50 = .ok (.invokevirtual 145, 3) := by decide +kernel
theorem d_V_releaseObject_53 : decode c_V_releaseObject 53 = .ok (.istore 6, 2) := by decide +kernel
theorem d_V_releaseObject_55 : decode c_V_releaseObject 55 = .ok (.iload 6, 2) := by decide +kernel
theorem d_V_releaseObject_57 : decode c_V_releaseObject 57 = .ok (.iconst (-1), 1) := by decide +kernel
theorem d_V_releaseObject_58 : decode c_V_releaseObject 58 = .ok (.if_icmp .eq (27), 3) := by decide +kernel
theorem d_V_releaseObject_61 : decode c_V_releaseObject 61 = .ok (.aload_n 0, 1) := by decide +kernel
theorem d_V_releaseObject_62 : decode c_V_releaseObject 62 = .ok (.getfield 25, 3) := by decide +kernel
theorem d_V_releaseObject_65 : decode c_V_releaseObject 65 = .ok (.iload 6, 2) := by decide +kernel
theorem d_V_releaseObject_67 : decode c_V_releaseObject 67 = .ok (.invokevirtual 205, 3) := by decide +kernel
theorem d_V_releaseObject_70 : decode c_V_releaseObject 70 = .ok (.aload_n 0, 1) := by decide +kernel
theorem d_V_releaseObject_71 : decode c_V_releaseObject 71 = .ok (.getfield 32, 3) := by decide +kernel
theorem d_V_releaseObject_74 : decode c_V_releaseObject 74 = .ok (.iload 4, 2) := by decide +kernel
theorem d_V_releaseObject_76 : decode c_V_releaseObject 76 = .ok (.iload 5, 2) := by decide +kernel
theorem d_V_releaseObject_78 : decode c_V_releaseObject 78 = .ok (.iconst (-1), 1) := by decide +kernel
theorem d_V_releaseObject_79 : decode c_V_releaseObject 79 = .ok (.invokevirtual 199, 3) := by decide +kernel
theorem d_V_releaseObject_82 : decode c_V_releaseObject 82 = .ok (.iinc 2 (1), 3) := by decide +kernel
theorem d_V_releaseObject_85 : decode c_V_releaseObject 85 = .ok (.iinc 5 (1), 3) := by decide +kernel
theorem d_V_releaseObject_88 : decode c_V_releaseObject 88 = .ok (.goto (-58), 3) := by decide +kernel
theorem d_V_releaseObject_91 : decode c_V_releaseObject 91 = .ok (.iinc 3 (1), 3) := by decide +kernel
theorem d_V_releaseObject_94 : decode c_V_releaseObject 94 = .ok (.goto (-90), 3) := by decide +kernel
theorem d_V_releaseObject_97 : decode c_V_releaseObject 97 = .ok (.aload_n 0, 1) := by decide +kernel
theorem d_V_releaseObject_98 : decode c_V_releaseObject 98 = .ok (.getfield 32, 3) := by decide +kernel
theorem d_V_releaseObject_101 : decode c_V_releaseObject 101 = .ok (.iload_n 1, 1) := by decide +kernel
theorem d_V_releaseObject_102 : decode c_V_releaseObject 102 = .ok (.invokevirtual 208, 3) := by decide +kernel
theorem d_V_releaseObject_105 : decode c_V_releaseObject 105 = .ok (.iload_n 2, 1) := by decide +kernel
theorem d_V_releaseObject_106 : decode c_V_releaseObject 106 = .ok (.ireturn, 1) := by decide +kernel
theorem d_V_isGone_0 : decode c_V_isGone 0 = .ok (.aload_n 0, 1) := by decide +kernel
theorem d_V_isGone_1 : decode c_V_isGone 1 = .ok (.getfield 32, 3) := by decide +kernel
theorem d_V_isGone_4 : decode c_V_isGone 4 = .ok (.iload_n 1, 1) := by decide +kernel
theorem d_V_isGone_5 : decode c_V_isGone 5 = .ok (.invokevirtual 211, 3) := by decide +kernel
theorem d_V_isGone_8 : decode c_V_isGone 8 = .ok (.aload_n 0, 1) := by decide +kernel
theorem d_V_isGone_9 : decode c_V_isGone 9 = .ok (.getfield 18, 3) := by decide +kernel
theorem d_V_isGone_12 : decode c_V_isGone 12 = .ok (.getfield 142, 3) := by decide +kernel
theorem d_V_isGone_15 : decode c_V_isGone 15 = .ok (.aload_n 0, 1) := by decide +kernel
theorem d_V_isGone_16 : decode c_V_isGone 16 = .ok (.getfield 18, 3) := by decide +kernel
theorem d_V_isGone_19 : decode c_V_isGone 19 = .ok (.getfield 214, 3) := by decide +kernel
theorem d_V_isGone_22 : decode c_V_isGone 22 = .ok (.isub, 1) := by decide +kernel
theorem d_V_isGone_23 : decode c_V_isGone 23 = .ok (.if_icmp .le (7), 3) := by decide +kernel
theorem d_V_isGone_26 : decode c_V_isGone 26 = .ok (.iconst (1), 1) := by decide +kernel
theorem d_V_isGone_27 : decode c_V_isGone 27 = .ok (.goto (4), 3) := by decide +kernel
theorem d_V_isGone_30 : decode c_V_isGone 30 = .ok (.iconst (0), 1) := by decide +kernel
theorem d_V_isGone_31 : decode c_V_isGone 31 = .ok (.ireturn, 1) := by decide +kernel
theorem d_V_hasGoneStripe_0 : decode c_V_hasGoneStripe 0 = .ok (.iconst (0), 1) := by decide +kernel
theorem d_V_hasGoneStripe_1 : decode c_V_hasGoneStripe 1 = .ok (.istore_n 2, 1) := by decide +kernel
theorem d_V_hasGoneStripe_2 : decode c_V_hasGoneStripe 2 = .ok (.iload_n 2, 1) := by decide +kernel
theorem d_V_hasGoneStripe_3 : decode c_V_hasGoneStripe 3 = .ok (.aload_n 0, 1) := by decide +kernel
theorem d_V_hasGoneStripe_4 : decode c_V_hasGoneStripe 4 = .ok (.getfield 32, 3) := by decide +kernel
theorem d_V_hasGoneStripe_7 : decode c_V_hasGoneStripe 7 = .ok (.iload_n 1, 1) := by decide +kernel
theorem d_V_hasGoneStripe_8 : decode c_V_hasGoneStripe 8 = .ok (.invokevirtual 73, 3) := by decide +kernel
theorem d_V_hasGoneStripe_11 : decode c_V_hasGoneStripe 11 = .ok (.if_icmp .ge (27), 3) := by decide +kernel
theorem d_V_hasGoneStripe_14 : decode c_V_hasGoneStripe 14 = .ok (.aload_n 0, 1) := by decide +kernel
theorem d_V_hasGoneStripe_15 : decode c_V_hasGoneStripe 15 = .ok (.aload_n 0, 1) := by decide +kernel
theorem d_V_hasGoneStripe_16 : decode c_V_hasGoneStripe 16 = .ok (.getfield 32, 3) := by decide +kernel
theorem d_V_hasGoneStripe_19 : decode c_V_hasGoneStripe 19 = .ok (.iload_n 1, 1) := by decide +kernel
theorem d_V_hasGoneStripe_20 : decode c_V_hasGoneStripe 20 = .ok (.iload_n 2, 1) := by decide +kernel
theorem d_V_hasGoneStripe_21 : decode c_V_hasGoneStripe 21 = .ok (.invokevirtual 83, 3) := by decide +kernel
theorem d_V_hasGoneStripe_24 : decode c_V_hasGoneStripe 24 = .ok (.invokevirtual 123, 3) := by decide +kernel
theorem d_V_hasGoneStripe_27 : decode c_V_hasGoneStripe 27 = .ok (.ifCond .eq (5), 3) := by decide +kernel
theorem d_V_hasGoneStripe_30 : decode c_V_hasGoneStripe 30 = .ok (.iconst (1), 1) := by decide +kernel
theorem d_V_hasGoneStripe_31 : decode c_V_hasGoneStripe 31 = .ok (.ireturn, 1) := by decide +kernel
theorem d_V_hasGoneStripe_32 : decode c_V_hasGoneStripe 32 = .ok (.iinc 2 (1), 3) := by decide +kernel
theorem d_V_hasGoneStripe_35 : decode c_V_hasGoneStripe 35 = .ok (.goto (-33), 3) := by decide +kernel
theorem d_V_hasGoneStripe_38 : decode c_V_hasGoneStripe 38 = .ok (.iconst (0), 1) := by decide +kernel
theorem d_V_hasGoneStripe_39 : decode c_V_hasGoneStripe 39 = .ok (.ireturn, 1) := by decide +kernel
theorem d_V_readStripe_0 : decode c_V_readStripe 0 = .ok (.aload_n 0, 1) := by decide +kernel
theorem d_V_readStripe_1 : decode c_V_readStripe 1 = .ok (.getfield 18, 3) := by decide +kernel
theorem d_V_readStripe_4 : decode c_V_readStripe 4 = .ok (.getfield 214, 3) := by decide +kernel
theorem d_V_readStripe_7 : decode c_V_readStripe 7 = .ok (.istore_n 2, 1) := by decide +kernel
theorem d_V_readStripe_8 : decode c_V_readStripe 8 = .ok (.iconst (1), 1) := by decide +kernel
theorem d_V_readStripe_9 : decode c_V_readStripe 9 = .ok (.istore_n 3, 1) := by decide +kernel
theorem d_V_readStripe_10 : decode c_V_readStripe 10 = .ok (.iconst (0), 1) := by decide +kernel
theorem d_V_readStripe_11 : decode c_V_readStripe 11 = .ok (.istore 4, 2) := by decide +kernel
theorem d_V_readStripe_13 : decode c_V_readStripe 13 = .ok (.iload 4, 2) := by decide +kernel
theorem d_V_readStripe_15 : decode c_V_readStripe 15 = .ok (.aload_n 0, 1) := by decide +kernel
theorem d_V_readStripe_16 : decode c_V_readStripe 16 = .ok (.getfield 18, 3) := by decide +kernel
theorem d_V_readStripe_19 : decode c_V_readStripe 19 = .ok (.getfield 214, 3) := by decide +kernel
theorem d_V_readStripe_22 : decode c_V_readStripe 22 = .ok (.if_icmp .ge (51), 3) := by decide +kernel
theorem d_V_readStripe_25 : decode c_V_readStripe 25 = .ok (.iload 4, 2) := by decide +kernel
theorem d_V_readStripe_27 : decode c_V_readStripe 27 = .ok (.istore 5, 2) := by decide +kernel
theorem d_V_readStripe_29 : decode c_V_readStripe 29 = .ok (.aload_n 0, 1) := by decide +kernel
theorem d_V_readStripe_30 : decode c_V_readStripe 30 = .ok (.getfield 32, 3) := by decide +kernel
theorem d_V_readStripe_33 : decode c_V_readStripe 33 = .ok (.iload_n 1, 1) := by decide +kernel
theorem d_V_readStripe_34 : decode c_V_readStripe 34 = .ok (.iload 4, 2) := by decide +kernel
theorem d_V_readStripe_36 : decode c_V_readStripe 36 = .ok (.invokevirtual 145, 3) := by decide +kernel
theorem d_V_readStripe_39 : decode c_V_readStripe 39 = .ok (.iconst (-1), 1) := by decide +kernel
theorem d_V_readStripe_40 : decode c_V_readStripe 40 = .ok (.if_icmp .ne (18), 3) := by decide +kernel
theorem d_V_readStripe_43 : decode c_V_readStripe 43 = .ok (.iconst (0), 1) := by decide +kernel
theorem d_V_readStripe_44 : decode c_V_readStripe 44 = .ok (.istore_n 3, 1) := by decide +kernel
theorem d_V_readStripe_45 : decode c_V_readStripe 45 = .ok (.aload_n 0, 1) := by decide +kernel
theorem d_V_readStripe_46 : decode c_V_readStripe 46 = .ok (.iload_n 1, 1) := by decide +kernel
theorem d_V_readStripe_47 : decode c_V_readStripe 47 = .ok (.iload_n 2, 1) := by decide +kernel
theorem d_V_readStripe_48 : decode c_V_readStripe 48 = .ok (.invokevirtual 217, 3) := by decide +kernel
theorem d_V_readStripe_51 : decode c_V_readStripe 51 = .ok (.istore_n 2, 1) := by decide +kernel
theorem d_V_readStripe_52 : decode c_V_readStripe 52 = .ok (.iload_n 2, 1) := by decide +kernel
theorem d_V_readStripe_53 : decode c_V_readStripe 53 = .ok (.istore 5, 2) := by decide +kernel
theorem d_V_readStripe_55 : decode c_V_readStripe 55 = .ok (.iinc 2 (1), 3) := by decide +kernel
theorem d_V_readStripe_58 : decode c_V_readStripe 58 = .ok (.aload_n 0, 1) := by decide +kernel
theorem d_V_readStripe_59 : decode c_V_readStripe 59 = .ok (.iload_n 1, 1) := by decide +kernel
theorem d_V_readStripe_60 : decode c_V_readStripe 60 = .ok (.iload 4, 2) := by decide +kernel
theorem d_V_readStripe_62 : decode c_V_readStripe 62 = .ok (.iload 5, 2) := by decide +kernel
theorem d_V_readStripe_64 : decode c_V_readStripe 64 = .ok (.invokevirtual 220, 3) := by decide +kernel
theorem d_V_readStripe_67 : decode c_V_readStripe 67 = .ok (.iinc 4 (1), 3) := by decide +kernel
theorem d_V_readStripe_70 : decode c_V_readStripe 70 = .ok (.goto (-57), 3) := by decide +kernel
theorem d_V_readStripe_73 : decode c_V_readStripe 73 = .ok (.iload_n 3, 1) := by decide +kernel
theorem d_V_readStripe_74 : decode c_V_readStripe 74 = .ok (.ifCond .ne (10), 3) := by decide +kernel
theorem d_V_readStripe_77 : decode c_V_readStripe 77 = .ok (.aload_n 0, 1) := by decide +kernel
theorem d_V_readStripe_78 : decode c_V_readStripe 78 = .ok (.getfield 18, 3) := by decide +kernel
theorem d_V_readStripe_81 : decode c_V_readStripe 81 = .ok (.invokevirtual 223, 3) := by decide +kernel
theorem d_V_readStripe_84 : decode c_V_readStripe 84 = .ok (.return_, 1) := by decide +kernel
end
section
/-! decode rows -/
theorem d_V_nextKept_0 : decode c_V_nextKept 0 = .ok (.iload_n 2, 1) := by decide +kernel
theorem d_V_nextKept_1 : decode c_V_nextKept 1 = .ok (.istore_n 3, 1) := by decide +kernel
theorem d_V_nextKept_2 : decode c_V_nextKept 2 = .ok (.iload_n 3, 1) := by decide +kernel
theorem d_V_nextKept_3 : decode c_V_nextKept 3 = .ok (.aload_n 0, 1) := by decide +kernel
theorem d_V_nextKept_4 : decode c_V_nextKept 4 = .ok (.getfield 18, 3) := by decide +kernel
theorem d_V_nextKept_7 : decode c_V_nextKept 7 = .ok (.getfield 142, 3) := by decide +kernel
theorem d_V_nextKept_10 : decode c_V_nextKept 10 = .ok (.if_icmp .ge (22), 3) := by decide +kernel
theorem d_V_nextKept_13 : decode c_V_nextKept 13 = .ok (.aload_n 0, 1) := by decide +kernel
theorem d_V_nextKept_14 : decode c_V_nextKept 14 = .ok (.getfield 32, 3) := by decide +kernel
theorem d_V_nextKept_17 : decode c_V_nextKept 17 = .ok (.iload_n 1, 1) := by decide +kernel
theorem d_V_nextKept_18 : decode c_V_nextKept 18 = .ok (.iload_n 3, 1) := by decide +kernel
theorem d_V_nextKept_19 : decode c_V_nextKept 19 = .ok (.invokevirtual 145, 3) := by decide +kernel
theorem d_V_nextKept_22 : decode c_V_nextKept 22 = .ok (.iconst (-1), 1) := by decide +kernel
theorem d_V_nextKept_23 : decode c_V_nextKept 23 = .ok (.if_icmp .ne (9), 3) := by decide +kernel
theorem d_V_nextKept_26 : decode c_V_nextKept 26 = .ok (.iinc 3 (1), 3) := by decide +kernel
theorem d_V_nextKept_29 : decode c_V_nextKept 29 = .ok (.goto (-27), 3) := by decide +kernel
theorem d_V_nextKept_32 : decode c_V_nextKept 32 = .ok (.iload_n 3, 1) := by decide +kernel
theorem d_V_nextKept_33 : decode c_V_nextKept 33 = .ok (.ireturn, 1) := by decide +kernel
theorem d_V_giveEquation_0 : decode c_V_giveEquation 0 = .ok (.iload_n 3, 1) := by decide +kernel
theorem d_V_giveEquation_1 : decode c_V_giveEquation 1 = .ok (.aload_n 0, 1) := by decide +kernel
theorem d_V_giveEquation_2 : decode c_V_giveEquation 2 = .ok (.getfield 18, 3) := by decide +kernel
theorem d_V_giveEquation_5 : decode c_V_giveEquation 5 = .ok (.getfield 142, 3) := by decide +kernel
theorem d_V_giveEquation_8 : decode c_V_giveEquation 8 = .ok (.if_icmp .ge (15), 3) := by decide +kernel
theorem d_V_giveEquation_11 : decode c_V_giveEquation 11 = .ok (.aload_n 0, 1) := by decide +kernel
theorem d_V_giveEquation_12 : decode c_V_giveEquation 12 = .ok (.getfield 32, 3) := by decide +kernel
theorem d_V_giveEquation_15 : decode c_V_giveEquation 15 = .ok (.iload_n 1, 1) := by decide +kernel
theorem d_V_giveEquation_16 : decode c_V_giveEquation 16 = .ok (.iload_n 3, 1) := by decide +kernel
theorem d_V_giveEquation_17 : decode c_V_giveEquation 17 = .ok (.invokevirtual 145, 3) := by decide +kernel
theorem d_V_giveEquation_20 : decode c_V_giveEquation 20 = .ok (.goto (4), 3) := by decide +kernel
theorem d_V_giveEquation_23 : decode c_V_giveEquation 23 = .ok (.iconst (-1), 1) := by decide +kernel
theorem d_V_giveEquation_24 : decode c_V_giveEquation 24 = .ok (.istore 4, 2) := by decide +kernel
theorem d_V_giveEquation_26 : decode c_V_giveEquation 26 = .ok (.iload 4, 2) := by decide +kernel
theorem d_V_giveEquation_28 : decode c_V_giveEquation 28 = .ok (.iconst (-1), 1) := by decide +kernel
theorem d_V_giveEquation_29 : decode c_V_giveEquation 29 = .ok (.if_icmp .ne (4), 3) := by decide +kernel
theorem d_V_giveEquation_32 : decode c_V_giveEquation 32 = .ok (.return_, 1) := by decide +kernel
theorem d_V_giveEquation_33 : decode c_V_giveEquation 33 = .ok (.aload_n 0, 1) := by decide +kernel
theorem d_V_giveEquation_34 : decode c_V_giveEquation 34 = .ok (.getfield 18, 3) := by decide +kernel
theorem d_V_giveEquation_37 : decode c_V_giveEquation 37 = .ok (.iload_n 2, 1) := by decide +kernel
theorem d_V_giveEquation_38 : decode c_V_giveEquation 38 = .ok (.iload_n 3, 1) := by decide +kernel
theorem d_V_giveEquation_39 : decode c_V_giveEquation 39 = .ok (.invokevirtual 226, 3) := by decide +kernel
theorem d_V_giveEquation_42 : decode c_V_giveEquation 42 = .ok (.iconst (0), 1) := by decide +kernel
theorem d_V_giveEquation_43 : decode c_V_giveEquation 43 = .ok (.istore 5, 2) := by decide +kernel
theorem d_V_giveEquation_45 : decode c_V_giveEquation 45 = .ok (.iload 5, 2) := by decide +kernel
theorem d_V_giveEquation_47 : decode c_V_giveEquation 47 = .ok (.iconst (4), 1) := by decide +kernel
theorem d_V_giveEquation_48 : decode c_V_giveEquation 48 = .ok (.if_icmp .ge (34), 3) := by decide +kernel
theorem d_V_giveEquation_51 : decode c_V_giveEquation 51 = .ok (.aload_n 0, 1) := by decide +kernel
theorem d_V_giveEquation_52 : decode c_V_giveEquation 52 = .ok (.getfield 18, 3) := by decide +kernel
theorem d_V_giveEquation_55 : decode c_V_giveEquation 55 = .ok (.getfield 187, 3) := by decide +kernel
theorem d_V_giveEquation_58 : decode c_V_giveEquation 58 = .ok (.iload_n 2, 1) := by decide +kernel
theorem d_V_giveEquation_59 : decode c_V_giveEquation 59 = .ok (.iconst (4), 1) := by decide +kernel
theorem d_V_giveEquation_60 : decode c_V_giveEquation 60 = .ok (.imul, 1) := by decide +kernel
theorem d_V_giveEquation_61 : decode c_V_giveEquation 61 = .ok (.iload 5, 2) := by decide +kernel
theorem d_V_giveEquation_63 : decode c_V_giveEquation 63 = .ok (.iadd, 1) := by decide +kernel
theorem d_V_giveEquation_64 : decode c_V_giveEquation 64 = .ok (.aload_n 0, 1) := by decide +kernel
theorem d_V_giveEquation_65 : decode c_V_giveEquation 65 = .ok (.getfield 25, 3) := by decide +kernel
theorem d_V_giveEquation_68 : decode c_V_giveEquation 68 = .ok (.iload 4, 2) := by decide +kernel
theorem d_V_giveEquation_70 : decode c_V_giveEquation 70 = .ok (.iload 5, 2) := by decide +kernel
theorem d_V_giveEquation_72 : decode c_V_giveEquation 72 = .ok (.invokevirtual 136, 3) := by decide +kernel
theorem d_V_giveEquation_75 : decode c_V_giveEquation 75 = .ok (.iastore, 1) := by decide +kernel
theorem d_V_giveEquation_76 : decode c_V_giveEquation 76 = .ok (.iinc 5 (1), 3) := by decide +kernel
theorem d_V_giveEquation_79 : decode c_V_giveEquation 79 = .ok (.goto (-34), 3) := by decide +kernel
theorem d_V_giveEquation_82 : decode c_V_giveEquation 82 = .ok (.return_, 1) := by decide +kernel
theorem d_V_repairStripe_0 : decode c_V_repairStripe 0 = .ok (.aload_n 0, 1) := by decide +kernel
theorem d_V_repairStripe_1 : decode c_V_repairStripe 1 = .ok (.iload_n 1, 1) := by decide +kernel
theorem d_V_repairStripe_2 : decode c_V_repairStripe 2 = .ok (.invokevirtual 123, 3) := by decide +kernel
theorem d_V_repairStripe_5 : decode c_V_repairStripe 5 = .ok (.ifCond .ne (14), 3) := by decide +kernel
theorem d_V_repairStripe_8 : decode c_V_repairStripe 8 = .ok (.aload_n 0, 1) := by decide +kernel
theorem d_V_repairStripe_9 : decode c_V_repairStripe 9 = .ok (.getfield 32, 3) := by decide +kernel
theorem d_V_repairStripe_12 : decode c_V_repairStripe 12 = .ok (.iload_n 1, 1) := by decide +kernel
theorem d_V_repairStripe_13 : decode c_V_repairStripe 13 = .ok (.invokevirtual 211, 3) := by decide +kernel
theorem d_V_repairStripe_16 : decode c_V_repairStripe 16 = .ok (.ifCond .ne (5), 3) := by decide +kernel
theorem d_V_repairStripe_19 : decode c_V_repairStripe 19 = .ok (.iconst (0), 1) := by decide +kernel
theorem d_V_repairStripe_20 : decode c_V_repairStripe 20 = .ok (.ireturn, 1) := by decide +kernel
theorem d_V_repairStripe_21 : decode c_V_repairStripe 21 = .ok (.aload_n 0, 1) := by decide +kernel
theorem d_V_repairStripe_22 : decode c_V_repairStripe 22 = .ok (.iload_n 1, 1) := by decide +kernel
theorem d_V_repairStripe_23 : decode c_V_repairStripe 23 = .ok (.invokevirtual 86, 3) := by decide +kernel
theorem d_V_repairStripe_26 : decode c_V_repairStripe 26 = .ok (.iconst (0), 1) := by decide +kernel
theorem d_V_repairStripe_27 : decode c_V_repairStripe 27 = .ok (.istore_n 2, 1) := by decide +kernel
theorem d_V_repairStripe_28 : decode c_V_repairStripe 28 = .ok (.iconst (0), 1) := by decide +kernel
theorem d_V_repairStripe_29 : decode c_V_repairStripe 29 = .ok (.istore_n 3, 1) := by decide +kernel
theorem d_V_repairStripe_30 : decode c_V_repairStripe 30 = .ok (.iload_n 3, 1) := by decide +kernel
theorem d_V_repairStripe_31 : decode c_V_repairStripe 31 = .ok (.aload_n 0, 1) := by decide +kernel
theorem d_V_repairStripe_32 : decode c_V_repairStripe 32 = .ok (.getfield 18, 3) := by decide +kernel
theorem d_V_repairStripe_35 : decode c_V_repairStripe 35 = .ok (.getfield 142, 3) := by decide +kernel
theorem d_V_repairStripe_38 : decode c_V_repairStripe 38 = .ok (.if_icmp .ge (34), 3) := by decide +kernel
theorem d_V_repairStripe_41 : decode c_V_repairStripe 41 = .ok (.aload_n 0, 1) := by decide +kernel
theorem d_V_repairStripe_42 : decode c_V_repairStripe 42 = .ok (.getfield 32, 3) := by decide +kernel
theorem d_V_repairStripe_45 : decode c_V_repairStripe 45 = .ok (.iload_n 1, 1) := by decide +kernel
theorem d_V_repairStripe_46 : decode c_V_repairStripe 46 = .ok (.iload_n 3, 1) := by decide +kernel
theorem d_V_repairStripe_47 : decode c_V_repairStripe 47 = .ok (.invokevirtual 145, 3) := by decide +kernel
theorem d_V_repairStripe_50 : decode c_V_repairStripe 50 = .ok (.iconst (-1), 1) := by decide +kernel
theorem d_V_repairStripe_51 : decode c_V_repairStripe 51 = .ok (.if_icmp .ne (15), 3) := by decide +kernel
theorem d_V_repairStripe_54 : decode c_V_repairStripe 54 = .ok (.aload_n 0, 1) := by decide +kernel
theorem d_V_repairStripe_55 : decode c_V_repairStripe 55 = .ok (.iload_n 1, 1) := by decide +kernel
theorem d_V_repairStripe_56 : decode c_V_repairStripe 56 = .ok (.iload_n 3, 1) := by decide +kernel
theorem d_V_repairStripe_57 : decode c_V_repairStripe 57 = .ok (.invokevirtual 180, 3) := by decide +kernel
theorem d_V_repairStripe_60 : decode c_V_repairStripe 60 = .ok (.ifCond .eq (6), 3) := by decide +kernel
theorem d_V_repairStripe_63 : decode c_V_repairStripe 63 = .ok (.iinc 2 (1), 3) := by decide +kernel
theorem d_V_repairStripe_66 : decode c_V_repairStripe 66 = .ok (.iinc 3 (1), 3) := by decide +kernel
theorem d_V_repairStripe_69 : decode c_V_repairStripe 69 = .ok (.goto (-39), 3) := by decide +kernel
theorem d_V_repairStripe_72 : decode c_V_repairStripe 72 = .ok (.iload_n 2, 1) := by decide +kernel
theorem d_V_repairStripe_73 : decode c_V_repairStripe 73 = .ok (.ireturn, 1) := by decide +kernel
theorem d_V_hasWrongShard_0 : decode c_V_hasWrongShard 0 = .ok (.aload_n 0, 1) := by decide +kernel
theorem d_V_hasWrongShard_1 : decode c_V_hasWrongShard 1 = .ok (.iload_n 1, 1) := by decide +kernel
theorem d_V_hasWrongShard_2 : decode c_V_hasWrongShard 2 = .ok (.invokevirtual 86, 3) := by decide +kernel
theorem d_V_hasWrongShard_5 : decode c_V_hasWrongShard 5 = .ok (.iconst (0), 1) := by decide +kernel
theorem d_V_hasWrongShard_6 : decode c_V_hasWrongShard 6 = .ok (.istore_n 2, 1) := by decide +kernel
theorem d_V_hasWrongShard_7 : decode c_V_hasWrongShard 7 = .ok (.iload_n 2, 1) := by decide +kernel
theorem d_V_hasWrongShard_8 : decode c_V_hasWrongShard 8 = .ok (.aload_n 0, 1) := by decide +kernel
theorem d_V_hasWrongShard_9 : decode c_V_hasWrongShard 9 = .ok (.getfield 18, 3) := by decide +kernel
theorem d_V_hasWrongShard_12 : decode c_V_hasWrongShard 12 = .ok (.getfield 142, 3) := by decide +kernel
theorem d_V_hasWrongShard_15 : decode c_V_hasWrongShard 15 = .ok (.if_icmp .ge (35), 3) := by decide +kernel
theorem d_V_hasWrongShard_18 : decode c_V_hasWrongShard 18 = .ok (.aload_n 0, 1) := by decide +kernel
theorem d_V_hasWrongShard_19 : decode c_V_hasWrongShard 19 = .ok (.getfield 32, 3) := by decide +kernel
theorem d_V_hasWrongShard_22 : decode c_V_hasWrongShard 22 = .ok (.iload_n 1, 1) := by decide +kernel
theorem d_V_hasWrongShard_23 : decode c_V_hasWrongShard 23 = .ok (.iload_n 2, 1) := by decide +kernel
theorem d_V_hasWrongShard_24 : decode c_V_hasWrongShard 24 = .ok (.invokevirtual 145, 3) := by decide +kernel
theorem d_V_hasWrongShard_27 : decode c_V_hasWrongShard 27 = .ok (.istore_n 3, 1) := by decide +kernel
theorem d_V_hasWrongShard_28 : decode c_V_hasWrongShard 28 = .ok (.iload_n 3, 1) := by decide +kernel
theorem d_V_hasWrongShard_29 : decode c_V_hasWrongShard 29 = .ok (.iconst (-1), 1) := by decide +kernel
theorem d_V_hasWrongShard_30 : decode c_V_hasWrongShard 30 = .ok (.if_icmp .eq (14), 3) := by decide +kernel
theorem d_V_hasWrongShard_33 : decode c_V_hasWrongShard 33 = .ok (.aload_n 0, 1) := by decide +kernel
theorem d_V_hasWrongShard_34 : decode c_V_hasWrongShard 34 = .ok (.iload_n 3, 1) := by decide +kernel
theorem d_V_hasWrongShard_35 : decode c_V_hasWrongShard 35 = .ok (.iload_n 2, 1) := by decide +kernel
theorem d_V_hasWrongShard_36 : decode c_V_hasWrongShard 36 = .ok (.invokevirtual 229, 3) := by decide +kernel
theorem d_V_hasWrongShard_39 : decode c_V_hasWrongShard 39 = .ok (.ifCond .ne (5), 3) := by decide +kernel
theorem d_V_hasWrongShard_42 : decode c_V_hasWrongShard 42 = .ok (.iconst (1), 1) := by decide +kernel
theorem d_V_hasWrongShard_43 : decode c_V_hasWrongShard 43 = .ok (.ireturn, 1) := by decide +kernel
theorem d_V_hasWrongShard_44 : decode c_V_hasWrongShard 44 = .ok (.iinc 2 (1), 3) := by decide +kernel
theorem d_V_hasWrongShard_47 : decode c_V_hasWrongShard 47 = .ok (.goto (-40), 3) := by decide +kernel
theorem d_V_hasWrongShard_50 : decode c_V_hasWrongShard 50 = .ok (.iconst (0), 1) := by decide +kernel
theorem d_V_hasWrongShard_51 : decode c_V_hasWrongShard 51 = .ok (.ireturn, 1) := by decide +kernel
theorem d_V_isAsWorkedOut_0 : decode c_V_isAsWorkedOut 0 = .ok (.iconst (0), 1) := by decide +kernel
theorem d_V_isAsWorkedOut_1 : decode c_V_isAsWorkedOut 1 = .ok (.istore_n 3, 1) := by decide +kernel
theorem d_V_isAsWorkedOut_2 : decode c_V_isAsWorkedOut 2 = .ok (.iload_n 3, 1) := by decide +kernel
theorem d_V_isAsWorkedOut_3 : decode c_V_isAsWorkedOut 3 = .ok (.iconst (4), 1) := by decide +kernel
theorem d_V_isAsWorkedOut_4 : decode c_V_isAsWorkedOut 4 = .ok (.if_icmp .ge (32), 3) := by decide +kernel
theorem d_V_isAsWorkedOut_7 : decode c_V_isAsWorkedOut 7 = .ok (.aload_n 0, 1) := by decide +kernel
theorem d_V_isAsWorkedOut_8 : decode c_V_isAsWorkedOut 8 = .ok (.getfield 25, 3) := by decide +kernel
theorem d_V_isAsWorkedOut_11 : decode c_V_isAsWorkedOut 11 = .ok (.iload_n 1, 1) := by decide +kernel
theorem d_V_isAsWorkedOut_12 : decode c_V_isAsWorkedOut 12 = .ok (.iload_n 3, 1) := by decide +kernel
theorem d_V_isAsWorkedOut_13 : decode c_V_isAsWorkedOut 13 = .ok (.invokevirtual 136, 3) := by decide +kernel
theorem d_V_isAsWorkedOut_16 : decode c_V_isAsWorkedOut 16 = .ok (.aload_n 0, 1) := by decide +kernel
theorem d_V_isAsWorkedOut_17 : decode c_V_isAsWorkedOut 17 = .ok (.getfield 18, 3) := by decide +kernel
theorem d_V_isAsWorkedOut_20 : decode c_V_isAsWorkedOut 20 = .ok (.iload_n 2, 1) := by decide +kernel
theorem d_V_isAsWorkedOut_21 : decode c_V_isAsWorkedOut 21 = .ok (.iload_n 3, 1) := by decide +kernel
theorem d_V_isAsWorkedOut_22 : decode c_V_isAsWorkedOut 22 = .ok (.invokevirtual 196, 3) := by decide +kernel
theorem d_V_isAsWorkedOut_25 : decode c_V_isAsWorkedOut 25 = .ok (.if_icmp .eq (5), 3) := by decide +kernel
theorem d_V_isAsWorkedOut_28 : decode c_V_isAsWorkedOut 28 = .ok (.iconst (0), 1) := by decide +kernel
theorem d_V_isAsWorkedOut_29 : decode c_V_isAsWorkedOut 29 = .ok (.ireturn, 1) := by decide +kernel
theorem d_V_isAsWorkedOut_30 : decode c_V_isAsWorkedOut 30 = .ok (.iinc 3 (1), 3) := by decide +kernel
theorem d_V_isAsWorkedOut_33 : decode c_V_isAsWorkedOut 33 = .ok (.goto (-31), 3) := by decide +kernel
theorem d_V_isAsWorkedOut_36 : decode c_V_isAsWorkedOut 36 = .ok (.iconst (1), 1) := by decide +kernel
theorem d_V_isAsWorkedOut_37 : decode c_V_isAsWorkedOut 37 = .ok (.ireturn, 1) := by decide +kernel
theorem d_R_init_0 : decode c_R_init 0 = .ok (.aload_n 0, 1) := by decide +kernel
theorem d_R_init_1 : decode c_R_init 1 = .ok (.invokespecial 1, 3) := by decide +kernel
theorem d_R_init_4 : decode c_R_init 4 = .ok (.aload_n 0, 1) := by decide +kernel
theorem d_R_init_5 : decode c_R_init 5 = .ok (.bipush (32), 2) := by decide +kernel
theorem d_R_init_7 : decode c_R_init 7 = .ok (.newarray .int, 2) := by decide +kernel
theorem d_R_init_9 : decode c_R_init 9 = .ok (.putfield 7, 3) := by decide +kernel
theorem d_R_init_12 : decode c_R_init 12 = .ok (.aload_n 0, 1) := by decide +kernel
theorem d_R_init_13 : decode c_R_init 13 = .ok (.bipush (8), 2) := by decide +kernel
theorem d_R_init_15 : decode c_R_init 15 = .ok (.newarray .boolean, 2) := by decide +kernel
theorem d_R_init_17 : decode c_R_init 17 = .ok (.putfield 13, 3) := by decide +kernel
theorem d_R_init_20 : decode c_R_init 20 = .ok (.aload_n 0, 1) := by decide +kernel
theorem d_R_init_21 : decode c_R_init 21 = .ok (.bipush (80), 2) := by decide +kernel
theorem d_R_init_23 : decode c_R_init 23 = .ok (.newarray .boolean, 2) := by decide +kernel
theorem d_R_init_25 : decode c_R_init 25 = .ok (.putfield 17, 3) := by decide +kernel
theorem d_R_init_28 : decode c_R_init 28 = .ok (.aload_n 0, 1) := by decide +kernel
theorem d_R_init_29 : decode c_R_init 29 = .ok (.sipush (320), 3) := by decide +kernel
theorem d_R_init_32 : decode c_R_init 32 = .ok (.newarray .int, 2) := by decide +kernel
theorem d_R_init_34 : decode c_R_init 34 = .ok (.putfield 20, 3) := by decide +kernel
theorem d_R_init_37 : decode c_R_init 37 = .ok (.aload_n 0, 1) := by decide +kernel
theorem d_R_init_38 : decode c_R_init 38 = .ok (.bipush (6), 2) := by decide +kernel
theorem d_R_init_40 : decode c_R_init 40 = .ok (.newarray .int, 2) := by decide +kernel
theorem d_R_init_42 : decode c_R_init 42 = .ok (.putfield 23, 3) := by decide +kernel
theorem d_R_init_45 : decode c_R_init 45 = .ok (.aload_n 0, 1) := by decide +kernel
theorem d_R_init_46 : decode c_R_init 46 = .ok (.sipush (336), 3) := by decide +kernel
theorem d_R_init_49 : decode c_R_init 49 = .ok (.newarray .int, 2) := by decide +kernel
theorem d_R_init_51 : decode c_R_init 51 = .ok (.putfield 26, 3) := by decide +kernel
theorem d_R_init_54 : decode c_R_init 54 = .ok (.aload_n 0, 1) := by decide +kernel
theorem d_R_init_55 : decode c_R_init 55 = .ok (.bipush (28), 2) := by decide +kernel
theorem d_R_init_57 : decode c_R_init 57 = .ok (.newarray .int, 2) := by decide +kernel
theorem d_R_init_59 : decode c_R_init 59 = .ok (.putfield 29, 3) := by decide +kernel
theorem d_R_init_62 : decode c_R_init 62 = .ok (.aload_n 0, 1) := by decide +kernel
theorem d_R_init_63 : decode c_R_init 63 = .ok (.bipush (32), 2) := by decide +kernel
theorem d_R_init_65 : decode c_R_init 65 = .ok (.newarray .int, 2) := by decide +kernel
theorem d_R_init_67 : decode c_R_init 67 = .ok (.putfield 32, 3) := by decide +kernel
theorem d_R_init_70 : decode c_R_init 70 = .ok (.aload_n 0, 1) := by decide +kernel
theorem d_R_init_71 : decode c_R_init 71 = .ok (.bipush (32), 2) := by decide +kernel
theorem d_R_init_73 : decode c_R_init 73 = .ok (.newarray .int, 2) := by decide +kernel
theorem d_R_init_75 : decode c_R_init 75 = .ok (.putfield 35, 3) := by decide +kernel
theorem d_R_init_78 : decode c_R_init 78 = .ok (.aload_n 0, 1) := by decide +kernel
theorem d_R_init_79 : decode c_R_init 79 = .ok (.bipush (16), 2) := by decide +kernel
theorem d_R_init_81 : decode c_R_init 81 = .ok (.newarray .int, 2) := by decide +kernel
theorem d_R_init_83 : decode c_R_init 83 = .ok (.putfield 38, 3) := by decide +kernel
theorem d_R_init_86 : decode c_R_init 86 = .ok (.aload_n 0, 1) := by decide +kernel
theorem d_R_init_87 : decode c_R_init 87 = .ok (.bipush (20), 2) := by decide +kernel
theorem d_R_init_89 : decode c_R_init 89 = .ok (.newarray .int, 2) := by decide +kernel
theorem d_R_init_91 : decode c_R_init 91 = .ok (.putfield 41, 3) := by decide +kernel
theorem d_R_init_94 : decode c_R_init 94 = .ok (.aload_n 0, 1) := by decide +kernel
theorem d_R_init_95 : decode c_R_init 95 = .ok (.iload_n 1, 1) := by decide +kernel
theorem d_R_init_96 : decode c_R_init 96 = .ok (.iconst (1), 1) := by decide +kernel
theorem d_R_init_97 : decode c_R_init 97 = .ok (.if_icmp .ge (7), 3) := by decide +kernel
theorem d_R_init_100 : decode c_R_init 100 = .ok (.iconst (1), 1) := by decide +kernel
theorem d_R_init_101 : decode c_R_init 101 = .ok (.goto (13), 3) := by decide +kernel
theorem d_R_init_104 : decode c_R_init 104 = .ok (.iload_n 1, 1) := by decide +kernel
theorem d_R_init_105 : decode c_R_init 105 = .ok (.iconst (4), 1) := by decide +kernel
theorem d_R_init_106 : decode c_R_init 106 = .ok (.if_icmp .le (7), 3) := by decide +kernel
theorem d_R_init_109 : decode c_R_init 109 = .ok (.iconst (4), 1) := by decide +kernel
theorem d_R_init_110 : decode c_R_init 110 = .ok (.goto (4), 3) := by decide +kernel
theorem d_R_init_113 : decode c_R_init 113 = .ok (.iload_n 1, 1) := by decide +kernel
theorem d_R_init_114 : decode c_R_init 114 = .ok (.putfield 44, 3) := by decide +kernel
theorem d_R_init_117 : decode c_R_init 117 = .ok (.aload_n 0, 1) := by decide +kernel
theorem d_R_init_118 : decode c_R_init 118 = .ok (.iload_n 2, 1) := by decide +kernel
theorem d_R_init_119 : decode c_R_init 119 = .ok (.iconst (1), 1) := by decide +kernel
theorem d_R_init_120 : decode c_R_init 120 = .ok (.if_icmp .ge (7), 3) := by decide +kernel
theorem d_R_init_123 : decode c_R_init 123 = .ok (.iconst (1), 1) := by decide +kernel
theorem d_R_init_124 : decode c_R_init 124 = .ok (.goto (13), 3) := by decide +kernel
theorem d_R_init_127 : decode c_R_init 127 = .ok (.iload_n 2, 1) := by decide +kernel
theorem d_R_init_128 : decode c_R_init 128 = .ok (.iconst (3), 1) := by decide +kernel
theorem d_R_init_129 : decode c_R_init 129 = .ok (.if_icmp .le (7), 3) := by decide +kernel
theorem d_R_init_132 : decode c_R_init 132 = .ok (.iconst (3), 1) := by decide +kernel
theorem d_R_init_133 : decode c_R_init 133 = .ok (.goto (4), 3) := by decide +kernel
theorem d_R_init_136 : decode c_R_init 136 = .ok (.iload_n 2, 1) := by decide +kernel
theorem d_R_init_137 : decode c_R_init 137 = .ok (.putfield 48, 3) := by decide +kernel
theorem d_R_init_140 : decode c_R_init 140 = .ok (.iconst (0), 1) := by decide +kernel
theorem d_R_init_141 : decode c_R_init 141 = .ok (.istore_n 3, 1) := by decide +kernel
theorem d_R_init_142 : decode c_R_init 142 = .ok (.iload_n 3, 1) := by decide +kernel
theorem d_R_init_143 : decode c_R_init 143 = .ok (.bipush (8), 2) := by decide +kernel
theorem d_R_init_145 : decode c_R_init 145 = .ok (.if_icmp .ge (16), 3) := by decide +kernel
theorem d_R_init_148 : decode c_R_init 148 = .ok (.aload_n 0, 1) := by decide +kernel
theorem d_R_init_149 : decode c_R_init 149 = .ok (.getfield 13, 3) := by decide +kernel
theorem d_R_init_152 : decode c_R_init 152 = .ok (.iload_n 3, 1) := by decide +kernel
theorem d_R_init_153 : decode c_R_init 153 = .ok (.iconst (1), 1) := by decide +kernel
theorem d_R_init_154 : decode c_R_init 154 = .ok (.bastore, 1) := by decide +kernel
theorem d_R_init_155 : decode c_R_init 155 = .ok (.iinc 3 (1), 3) := by decide +kernel
theorem d_R_init_158 : decode c_R_init 158 = .ok (.goto (-16), 3) := by decide +kernel
theorem d_R_init_161 : decode c_R_init 161 = .ok (.iconst (0), 1) := by decide +kernel
theorem d_R_init_162 : decode c_R_init 162 = .ok (.istore_n 3, 1) := by decide +kernel
theorem d_R_init_163 : decode c_R_init 163 = .ok (.iload_n 3, 1) := by decide +kernel
theorem d_R_init_164 : decode c_R_init 164 = .ok (.sipush (336), 3) := by decide +kernel
theorem d_R_init_167 : decode c_R_init 167 = .ok (.if_icmp .ge (16), 3) := by decide +kernel
theorem d_R_init_170 : decode c_R_init 170 = .ok (.aload_n 0, 1) := by decide +kernel
theorem d_R_init_171 : decode c_R_init 171 = .ok (.getfield 26, 3) := by decide +kernel
theorem d_R_init_174 : decode c_R_init 174 = .ok (.iload_n 3, 1) := by decide +kernel
theorem d_R_init_175 : decode c_R_init 175 = .ok (.iconst (-1), 1) := by decide +kernel
theorem d_R_init_176 : decode c_R_init 176 = .ok (.iastore, 1) := by decide +kernel
theorem d_R_init_177 : decode c_R_init 177 = .ok (.iinc 3 (1), 3) := by decide +kernel
theorem d_R_init_180 : decode c_R_init 180 = .ok (.goto (-17), 3) := by decide +kernel
theorem d_R_init_183 : decode c_R_init 183 = .ok (.iconst (0), 1) := by decide +kernel
theorem d_R_init_184 : decode c_R_init 184 = .ok (.istore_n 3, 1) := by decide +kernel
theorem d_R_init_185 : decode c_R_init 185 = .ok (.iload_n 3, 1) := by decide +kernel
theorem d_R_init_186 : decode c_R_init 186 = .ok (.aload_n 0, 1) := by decide +kernel
theorem d_R_init_187 : decode c_R_init 187 = .ok (.invokevirtual 51, 3) := by decide +kernel
theorem d_R_init_190 : decode c_R_init 190 = .ok (.if_icmp .ge (67), 3) := by decide +kernel
theorem d_R_init_193 : decode c_R_init 193 = .ok (.iconst (0), 1) := by decide +kernel
theorem d_R_init_194 : decode c_R_init 194 = .ok (.istore 4, 2) := by decide +kernel
theorem d_R_init_196 : decode c_R_init 196 = .ok (.iload 4, 2) := by decide +kernel
theorem d_R_init_198 : decode c_R_init 198 = .ok (.aload_n 0, 1) := by decide +kernel
theorem d_R_init_199 : decode c_R_init 199 = .ok (.getfield 44, 3) := by decide +kernel
theorem d_R_init_202 : decode c_R_init 202 = .ok (.if_icmp .ge (49), 3) := by decide +kernel
theorem d_R_init_205 : decode c_R_init 205 = .ok (.aload_n 0, 1) := by decide +kernel
theorem d_R_init_206 : decode c_R_init 206 = .ok (.getfield 29, 3) := by decide +kernel
theorem d_R_init_209 : decode c_R_init 209 = .ok (.iconst (4), 1) := by decide +kernel
theorem d_R_init_210 : decode c_R_init 210 = .ok (.iload_n 3, 1) := by decide +kernel
theorem d_R_init_211 : decode c_R_init 211 = .ok (.imul, 1) := by decide +kernel
theorem d_R_init_212 : decode c_R_init 212 = .ok (.iload 4, 2) := by decide +kernel
theorem d_R_init_214 : decode c_R_init 214 = .ok (.iadd, 1) := by decide +kernel
theorem d_R_init_215 : decode c_R_init 215 = .ok (.iload_n 3, 1) := by decide +kernel
theorem d_R_init_216 : decode c_R_init 216 = .ok (.aload_n 0, 1) := by decide +kernel
theorem d_R_init_217 : decode c_R_init 217 = .ok (.getfield 44, 3) := by decide +kernel
theorem d_R_init_220 : decode c_R_init 220 = .ok (.if_icmp .ge (17), 3) := by decide +kernel
theorem d_R_init_223 : decode c_R_init 223 = .ok (.iload_n 3, 1) := by decide +kernel
theorem d_R_init_224 : decode c_R_init 224 = .ok (.iload 4, 2) := by decide +kernel
theorem d_R_init_226 : decode c_R_init 226 = .ok (.if_icmp .ne (7), 3) := by decide +kernel
theorem d_R_init_229 : decode c_R_init 229 = .ok (.iconst (1), 1) := by decide +kernel
theorem d_R_init_230 : decode c_R_init 230 = .ok (.goto (14), 3) := by decide +kernel
theorem d_R_init_233 : decode c_R_init 233 = .ok (.iconst (0), 1) := by decide +kernel
theorem d_R_init_234 : decode c_R_init 234 = .ok (.goto (10), 3) := by decide +kernel
theorem d_R_init_237 : decode c_R_init 237 = .ok (.iload_n 3, 1) := by decide +kernel
theorem d_R_init_238 : decode c_R_init 238 = .ok (.iload 4, 2) := by decide +kernel
theorem d_R_init_240 : decode c_R_init 240 = .ok (.ixor, 1) := by decide +kernel
theorem d_R_init_241 : decode c_R_init 241 = .ok (.invokestatic 55, 3) := by decide +kernel
theorem d_R_init_244 : decode c_R_init 244 = .ok (.iastore, 1) := by decide +kernel
theorem d_R_init_245 : decode c_R_init 245 = .ok (.iinc 4 (1), 3) := by decide +kernel
theorem d_R_init_248 : decode c_R_init 248 = .ok (.goto (-52), 3) := by decide +kernel
theorem d_R_init_251 : decode c_R_init 251 = .ok (.iinc 3 (1), 3) := by decide +kernel
theorem d_R_init_254 : decode c_R_init 254 = .ok (.goto (-69), 3) := by decide +kernel
theorem d_R_init_257 : decode c_R_init 257 = .ok (.return_, 1) := by decide +kernel
theorem d_R_thrown_0 : decode c_R_thrown 0 = .ok (.aload_n 0, 1) := by decide +kernel
theorem d_R_thrown_1 : decode c_R_thrown 1 = .ok (.getfield 59, 3) := by decide +kernel
theorem d_R_thrown_4 : decode c_R_thrown 4 = .ok (.ireturn, 1) := by decide +kernel
theorem d_R_put_0 : decode c_R_put 0 = .ok (.aload_n 0, 1) := by decide +kernel
theorem d_R_put_1 : decode c_R_put 1 = .ok (.iconst (0), 1) := by decide +kernel
theorem d_R_put_2 : decode c_R_put 2 = .ok (.putfield 59, 3) := by decide +kernel
theorem d_R_put_5 : decode c_R_put 5 = .ok (.iload_n 1, 1) := by decide +kernel
theorem d_R_put_6 : decode c_R_put 6 = .ok (.iconst (1), 1) := by decide +kernel
theorem d_R_put_7 : decode c_R_put 7 = .ok (.if_icmp .lt (20), 3) := by decide +kernel
theorem d_R_put_10 : decode c_R_put 10 = .ok (.iload_n 1, 1) := by decide +kernel
theorem d_R_put_11 : decode c_R_put 11 = .ok (.bipush (8), 2) := by decide +kernel
theorem d_R_put_13 : decode c_R_put 13 = .ok (.if_icmp .gt (14), 3) := by decide +kernel
theorem d_R_put_16 : decode c_R_put 16 = .ok (.aload_n 0, 1) := by decide +kernel
theorem d_R_put_17 : decode c_R_put 17 = .ok (.getfield 62, 3) := by decide +kernel
theorem d_R_put_20 : decode c_R_put 20 = .ok (.iload_n 1, 1) := by decide +kernel
theorem d_R_put_21 : decode c_R_put 21 = .ok (.iadd, 1) := by decide +kernel
theorem d_R_put_22 : decode c_R_put 22 = .ok (.bipush (32), 2) := by decide +kernel
theorem d_R_put_24 : decode c_R_put 24 = .ok (.if_icmp .le (5), 3) := by decide +kernel
theorem d_R_put_27 : decode c_R_put 27 = .ok (.iconst (0), 1) := by decide +kernel
theorem d_R_put_28 : decode c_R_put 28 = .ok (.ireturn, 1) := by decide +kernel
theorem d_R_put_29 : decode c_R_put 29 = .ok (.iload_n 1, 1) := by decide +kernel
theorem d_R_put_30 : decode c_R_put 30 = .ok (.iconst (1), 1) := by decide +kernel
theorem d_R_put_31 : decode c_R_put 31 = .ok (.isub, 1) := by decide +kernel
theorem d_R_put_32 : decode c_R_put 32 = .ok (.istore 4, 2) := by decide +kernel
theorem d_R_put_34 : decode c_R_put 34 = .ok (.iload 4, 2) := by decide +kernel
theorem d_R_put_36 : decode c_R_put 36 = .ok (.ifCond .lt (40), 3) := by decide +kernel
theorem d_R_put_39 : decode c_R_put 39 = .ok (.aload_n 0, 1) := by decide +kernel
theorem d_R_put_40 : decode c_R_put 40 = .ok (.getfield 7, 3) := by decide +kernel
theorem d_R_put_43 : decode c_R_put 43 = .ok (.aload_n 0, 1) := by decide +kernel
theorem d_R_put_44 : decode c_R_put 44 = .ok (.getfield 62, 3) := by decide +kernel
theorem d_R_put_47 : decode c_R_put 47 = .ok (.lload_n 2, 1) := by decide +kernel
theorem d_R_put_48 : decode c_R_put 48 = .ok (.bipush (8), 2) := by decide +kernel
theorem d_R_put_50 : decode c_R_put 50 = .ok (.iload 4, 2) := by decide +kernel
theorem d_R_put_52 : decode c_R_put 52 = .ok (.imul, 1) := by decide +kernel
theorem d_R_put_53 : decode c_R_put 53 = .ok (.lushr, 1) := by decide +kernel
theorem d_R_put_54 : decode c_R_put 54 = .ok (.ldc2_w 65, 3) := by decide +kernel
theorem d_R_put_57 : decode c_R_put 57 = .ok (.land, 1) := by decide +kernel
theorem d_R_put_58 : decode c_R_put 58 = .ok (.l2i, 1) := by decide +kernel
theorem d_R_put_59 : decode c_R_put 59 = .ok (.iastore, 1) := by decide +kernel
theorem d_R_put_60 : decode c_R_put 60 = .ok (.aload_n 0, 1) := by decide +kernel
theorem d_R_put_61 : decode c_R_put 61 = .ok (.dup, 1) := by decide +kernel
theorem d_R_put_62 : decode c_R_put 62 = .ok (.getfield 62, 3) := by decide +kernel
theorem d_R_put_65 : decode c_R_put 65 = .ok (.iconst (1), 1) := by decide +kernel
theorem d_R_put_66 : decode c_R_put 66 = .ok (.iadd, 1) := by decide +kernel
theorem d_R_put_67 : decode c_R_put 67 = .ok (.putfield 62, 3) := by decide +kernel
theorem d_R_put_70 : decode c_R_put 70 = .ok (.iinc 4 (-1), 3) := by decide +kernel
theorem d_R_put_73 : decode c_R_put 73 = .ok (.goto (-39), 3) := by decide +kernel
theorem d_R_put_76 : decode c_R_put 76 = .ok (.iconst (1), 1) := by decide +kernel
theorem d_R_put_77 : decode c_R_put 77 = .ok (.ireturn, 1) := by decide +kernel
theorem d_R_scrap_0 : decode c_R_scrap 0 = .ok (.aload_n 0, 1) := by decide +kernel
theorem d_R_scrap_1 : decode c_R_scrap 1 = .ok (.iconst (0), 1) := by decide +kernel
theorem d_R_scrap_2 : decode c_R_scrap 2 = .ok (.putfield 59, 3) := by decide +kernel
theorem d_R_scrap_5 : decode c_R_scrap 5 = .ok (.aload_n 0, 1) := by decide +kernel
theorem d_R_scrap_6 : decode c_R_scrap 6 = .ok (.iconst (0), 1) := by decide +kernel
theorem d_R_scrap_7 : decode c_R_scrap 7 = .ok (.putfield 62, 3) := by decide +kernel
theorem d_R_scrap_10 : decode c_R_scrap 10 = .ok (.return_, 1) := by decide +kernel
theorem d_R_times_0 : decode c_R_times 0 = .ok (.iconst (0), 1) := by decide +kernel
theorem d_R_times_1 : decode c_R_times 1 = .ok (.istore_n 2, 1) := by decide +kernel
theorem d_R_times_2 : decode c_R_times 2 = .ok (.iload_n 0, 1) := by decide +kernel
theorem d_R_times_3 : decode c_R_times 3 = .ok (.istore_n 3, 1) := by decide +kernel
theorem d_R_times_4 : decode c_R_times 4 = .ok (.iconst (0), 1) := by decide +kernel
theorem d_R_times_5 : decode c_R_times 5 = .ok (.istore 4, 2) := by decide +kernel
theorem d_R_times_7 : decode c_R_times 7 = .ok (.iload 4, 2) := by decide +kernel
theorem d_R_times_9 : decode c_R_times 9 = .ok (.bipush (8), 2) := by decide +kernel
theorem d_R_times_11 : decode c_R_times 11 = .ok (.if_icmp .ge (48), 3) := by decide +kernel
theorem d_R_times_14 : decode c_R_times 14 = .ok (.iload_n 1, 1) := by decide +kernel
theorem d_R_times_15 : decode c_R_times 15 = .ok (.iload 4, 2) := by decide +kernel
theorem d_R_times_17 : decode c_R_times 17 = .ok (.ishr, 1) := by decide +kernel
theorem d_R_times_18 : decode c_R_times 18 = .ok (.iconst (1), 1) := by decide +kernel
theorem d_R_times_19 : decode c_R_times 19 = .ok (.iand, 1) := by decide +kernel
theorem d_R_times_20 : decode c_R_times 20 = .ok (.iconst (1), 1) := by decide +kernel
theorem d_R_times_21 : decode c_R_times 21 = .ok (.if_icmp .ne (9), 3) := by decide +kernel
theorem d_R_times_24 : decode c_R_times 24 = .ok (.iload_n 2, 1) := by decide +kernel
theorem d_R_times_25 : decode c_R_times 25 = .ok (.iload_n 3, 1) := by decide +kernel
theorem d_R_times_26 : decode c_R_times 26 = .ok (.ixor, 1) := by decide +kernel
theorem d_R_times_27 : decode c_R_times 27 = .ok (.goto (4), 3) := by decide +kernel
theorem d_R_times_30 : decode c_R_times 30 = .ok (.iload_n 2, 1) := by decide +kernel
theorem d_R_times_31 : decode c_R_times 31 = .ok (.istore_n 2, 1) := by decide +kernel
theorem d_R_times_32 : decode c_R_times 32 = .ok (.iconst (2), 1) := by decide +kernel
theorem d_R_times_33 : decode c_R_times 33 = .ok (.iload_n 3, 1) := by decide +kernel
theorem d_R_times_34 : decode c_R_times 34 = .ok (.imul, 1) := by decide +kernel
theorem d_R_times_35 : decode c_R_times 35 = .ok (.istore_n 3, 1) := by decide +kernel
theorem d_R_times_36 : decode c_R_times 36 = .ok (.iload_n 3, 1) := by decide +kernel
theorem d_R_times_37 : decode c_R_times 37 = .ok (.sipush (255), 3) := by decide +kernel
theorem d_R_times_40 : decode c_R_times 40 = .ok (.if_icmp .le (11), 3) := by decide +kernel
theorem d_R_times_43 : decode c_R_times 43 = .ok (.iload_n 3, 1) := by decide +kernel
theorem d_R_times_44 : decode c_R_times 44 = .ok (.sipush (285), 3) := by decide +kernel
theorem d_R_times_47 : decode c_R_times 47 = .ok (.ixor, 1) := by decide +kernel
theorem d_R_times_48 : decode c_R_times 48 = .ok (.goto (4), 3) := by decide +kernel
theorem d_R_times_51 : decode c_R_times 51 = .ok (.iload_n 3, 1) := by decide +kernel
theorem d_R_times_52 : decode c_R_times 52 = .ok (.istore_n 3, 1) := by decide +kernel
theorem d_R_times_53 : decode c_R_times 53 = .ok (.iinc 4 (1), 3) := by decide +kernel
theorem d_R_times_56 : decode c_R_times 56 = .ok (.goto (-49), 3) := by decide +kernel
theorem d_R_times_59 : decode c_R_times 59 = .ok (.iload_n 2, 1) := by decide +kernel
theorem d_R_times_60 : decode c_R_times 60 = .ok (.ireturn, 1) := by decide +kernel
theorem d_R_inverse_0 : decode c_R_inverse 0 = .ok (.iconst (1), 1) := by decide +kernel
theorem d_R_inverse_1 : decode c_R_inverse 1 = .ok (.istore_n 1, 1) := by decide +kernel
theorem d_R_inverse_2 : decode c_R_inverse 2 = .ok (.iload_n 0, 1) := by decide +kernel
theorem d_R_inverse_3 : decode c_R_inverse 3 = .ok (.iload_n 1, 1) := by decide +kernel
theorem d_R_inverse_4 : decode c_R_inverse 4 = .ok (.invokestatic 67, 3) := by decide +kernel
theorem d_R_inverse_7 : decode c_R_inverse 7 = .ok (.iconst (1), 1) := by decide +kernel
theorem d_R_inverse_8 : decode c_R_inverse 8 = .ok (.if_icmp .eq (9), 3) := by decide +kernel
theorem d_R_inverse_11 : decode c_R_inverse 11 = .ok (.iinc 1 (1), 3) := by decide +kernel
theorem d_R_inverse_14 : decode c_R_inverse 14 = .ok (.goto (-12), 3) := by decide +kernel
theorem d_R_inverse_17 : decode c_R_inverse 17 = .ok (.iload_n 1, 1) := by decide +kernel
theorem d_R_inverse_18 : decode c_R_inverse 18 = .ok (.ireturn, 1) := by decide +kernel
theorem d_R_factor_0 : decode c_R_factor 0 = .ok (.aload_n 0, 1) := by decide +kernel
theorem d_R_factor_1 : decode c_R_factor 1 = .ok (.getfield 29, 3) := by decide +kernel
theorem d_R_factor_4 : decode c_R_factor 4 = .ok (.iconst (4), 1) := by decide +kernel
theorem d_R_factor_5 : decode c_R_factor 5 = .ok (.iload_n 1, 1) := by decide +kernel
theorem d_R_factor_6 : decode c_R_factor 6 = .ok (.imul, 1) := by decide +kernel
theorem d_R_factor_7 : decode c_R_factor 7 = .ok (.iload_n 2, 1) := by decide +kernel
theorem d_R_factor_8 : decode c_R_factor 8 = .ok (.iadd, 1) := by decide +kernel
theorem d_R_factor_9 : decode c_R_factor 9 = .ok (.iaload, 1) := by decide +kernel
theorem d_R_factor_10 : decode c_R_factor 10 = .ok (.ireturn, 1) := by decide +kernel
theorem d_R_shards_0 : decode c_R_shards 0 = .ok (.aload_n 0, 1) := by decide +kernel
theorem d_R_shards_1 : decode c_R_shards 1 = .ok (.getfield 44, 3) := by decide +kernel
theorem d_R_shards_4 : decode c_R_shards 4 = .ok (.aload_n 0, 1) := by decide +kernel
theorem d_R_shards_5 : decode c_R_shards 5 = .ok (.getfield 48, 3) := by decide +kernel
theorem d_R_shards_8 : decode c_R_shards 8 = .ok (.iadd, 1) := by decide +kernel
theorem d_R_shards_9 : decode c_R_shards 9 = .ok (.ireturn, 1) := by decide +kernel
theorem d_R_stripesOf_0 : decode c_R_stripesOf 0 = .ok (.aload_n 0, 1) := by decide +kernel
theorem d_R_stripesOf_1 : decode c_R_stripesOf 1 = .ok (.getfield 23, 3) := by decide +kernel
theorem d_R_stripesOf_4 : decode c_R_stripesOf 4 = .ok (.iload_n 1, 1) := by decide +kernel
theorem d_R_stripesOf_5 : decode c_R_stripesOf 5 = .ok (.iaload, 1) := by decide +kernel
theorem d_R_stripesOf_6 : decode c_R_stripesOf 6 = .ok (.iconst (4), 1) := by decide +kernel
theorem d_R_stripesOf_7 : decode c_R_stripesOf 7 = .ok (.aload_n 0, 1) := by decide +kernel
theorem d_R_stripesOf_8 : decode c_R_stripesOf 8 = .ok (.getfield 44, 3) := by decide +kernel
theorem d_R_stripesOf_11 : decode c_R_stripesOf 11 = .ok (.imul, 1) := by decide +kernel
theorem d_R_stripesOf_12 : decode c_R_stripesOf 12 = .ok (.iadd, 1) := by decide +kernel
theorem d_R_stripesOf_13 : decode c_R_stripesOf 13 = .ok (.iconst (1), 1) := by decide +kernel
theorem d_R_stripesOf_14 : decode c_R_stripesOf 14 = .ok (.isub, 1) := by decide +kernel
theorem d_R_stripesOf_15 : decode c_R_stripesOf 15 = .ok (.iconst (4), 1) := by decide +kernel
theorem d_R_stripesOf_16 : decode c_R_stripesOf 16 = .ok (.aload_n 0, 1) := by decide +kernel
theorem d_R_stripesOf_17 : decode c_R_stripesOf 17 = .ok (.getfield 44, 3) := by decide +kernel
theorem d_R_stripesOf_20 : decode c_R_stripesOf 20 = .ok (.imul, 1) := by decide +kernel
theorem d_R_stripesOf_21 : decode c_R_stripesOf 21 = .ok (.idiv, 1) := by decide +kernel
theorem d_R_stripesOf_22 : decode c_R_stripesOf 22 = .ok (.ireturn, 1) := by decide +kernel
theorem d_R_place_0 : decode c_R_place 0 = .ok (.aload_n 0, 1) := by decide +kernel
theorem d_R_place_1 : decode c_R_place 1 = .ok (.getfield 26, 3) := by decide +kernel
theorem d_R_place_4 : decode c_R_place 4 = .ok (.bipush (56), 2) := by decide +kernel
theorem d_R_place_6 : decode c_R_place 6 = .ok (.iload_n 1, 1) := by decide +kernel
theorem d_R_place_7 : decode c_R_place 7 = .ok (.imul, 1) := by decide +kernel
theorem d_R_place_8 : decode c_R_place 8 = .ok (.bipush (7), 2) := by decide +kernel
theorem d_R_place_10 : decode c_R_place 10 = .ok (.iload_n 2, 1) := by decide +kernel
theorem d_R_place_11 : decode c_R_place 11 = .ok (.imul, 1) := by decide +kernel
theorem d_R_place_12 : decode c_R_place 12 = .ok (.iadd, 1) := by decide +kernel
theorem d_R_place_13 : decode c_R_place 13 = .ok (.iload_n 3, 1) := by decide +kernel
theorem d_R_place_14 : decode c_R_place 14 = .ok (.iadd, 1) := by decide +kernel
theorem d_R_place_15 : decode c_R_place 15 = .ok (.iaload, 1) := by decide +kernel
theorem d_R_place_16 : decode c_R_place 16 = .ok (.ireturn, 1) := by decide +kernel
theorem d_R_lost_0 : decode c_R_lost 0 = .ok (.iconst (0), 1) := by decide +kernel
theorem d_R_lost_1 : decode c_R_lost 1 = .ok (.istore_n 3, 1) := by decide +kernel
theorem d_R_lost_2 : decode c_R_lost 2 = .ok (.iconst (0), 1) := by decide +kernel
theorem d_R_lost_3 : decode c_R_lost 3 = .ok (.istore 4, 2) := by decide +kernel
theorem d_R_lost_5 : decode c_R_lost 5 = .ok (.iload 4, 2) := by decide +kernel
theorem d_R_lost_7 : decode c_R_lost 7 = .ok (.aload_n 0, 1) := by decide +kernel
theorem d_R_lost_8 : decode c_R_lost 8 = .ok (.invokevirtual 51, 3) := by decide +kernel
theorem d_R_lost_11 : decode c_R_lost 11 = .ok (.if_icmp .ge (28), 3) := by decide +kernel
theorem d_R_lost_14 : decode c_R_lost 14 = .ok (.aload_n 0, 1) := by decide +kernel
theorem d_R_lost_15 : decode c_R_lost 15 = .ok (.iload_n 1, 1) := by decide +kernel
theorem d_R_lost_16 : decode c_R_lost 16 = .ok (.iload_n 2, 1) := by decide +kernel
theorem d_R_lost_17 : decode c_R_lost 17 = .ok (.iload 4, 2) := by decide +kernel
theorem d_R_lost_19 : decode c_R_lost 19 = .ok (.invokevirtual 71, 3) := by decide +kernel
theorem d_R_lost_22 : decode c_R_lost 22 = .ok (.ifCond .ge (9), 3) := by decide +kernel
theorem d_R_lost_25 : decode c_R_lost 25 = .ok (.iload_n 3, 1) := by decide +kernel
theorem d_R_lost_26 : decode c_R_lost 26 = .ok (.iconst (1), 1) := by decide +kernel
theorem d_R_lost_27 : decode c_R_lost 27 = .ok (.iadd, 1) := by decide +kernel
theorem d_R_lost_28 : decode c_R_lost 28 = .ok (.goto (4), 3) := by decide +kernel
theorem d_R_lost_31 : decode c_R_lost 31 = .ok (.iload_n 3, 1) := by decide +kernel
theorem d_R_lost_32 : decode c_R_lost 32 = .ok (.istore_n 3, 1) := by decide +kernel
theorem d_R_lost_33 : decode c_R_lost 33 = .ok (.iinc 4 (1), 3) := by decide +kernel
theorem d_R_lost_36 : decode c_R_lost 36 = .ok (.goto (-31), 3) := by decide +kernel
theorem d_R_lost_39 : decode c_R_lost 39 = .ok (.iload_n 3, 1) := by decide +kernel
theorem d_R_lost_40 : decode c_R_lost 40 = .ok (.ireturn, 1) := by decide +kernel
theorem d_R_worked_0 : decode c_R_worked 0 = .ok (.iconst (0), 1) := by decide +kernel
theorem d_R_worked_1 : decode c_R_worked 1 = .ok (.istore_n 3, 1) := by decide +kernel
theorem d_R_worked_2 : decode c_R_worked 2 = .ok (.iconst (0), 1) := by decide +kernel
theorem d_R_worked_3 : decode c_R_worked 3 = .ok (.istore 4, 2) := by decide +kernel
theorem d_R_worked_5 : decode c_R_worked 5 = .ok (.iload 4, 2) := by decide +kernel
theorem d_R_worked_7 : decode c_R_worked 7 = .ok (.aload_n 0, 1) := by decide +kernel
theorem d_R_worked_8 : decode c_R_worked 8 = .ok (.getfield 44, 3) := by decide +kernel
theorem d_R_worked_11 : decode c_R_worked 11 = .ok (.if_icmp .ge (33), 3) := by decide +kernel
theorem d_R_worked_14 : decode c_R_worked 14 = .ok (.iload_n 3, 1) := by decide +kernel
theorem d_R_worked_15 : decode c_R_worked 15 = .ok (.aload_n 0, 1) := by decide +kernel
theorem d_R_worked_16 : decode c_R_worked 16 = .ok (.iload_n 1, 1) := by decide +kernel
theorem d_R_worked_17 : decode c_R_worked 17 = .ok (.iload 4, 2) := by decide +kernel
theorem d_R_worked_19 : decode c_R_worked 19 = .ok (.invokevirtual 75, 3) := by decide +kernel
theorem d_R_worked_22 : decode c_R_worked 22 = .ok (.aload_n 0, 1) := by decide +kernel
theorem d_R_worked_23 : decode c_R_worked 23 = .ok (.getfield 38, 3) := by decide +kernel
theorem d_R_worked_26 : decode c_R_worked 26 = .ok (.iconst (4), 1) := by decide +kernel
theorem d_R_worked_27 : decode c_R_worked 27 = .ok (.iload 4, 2) := by decide +kernel
theorem d_R_worked_29 : decode c_R_worked 29 = .ok (.imul, 1) := by decide +kernel
theorem d_R_worked_30 : decode c_R_worked 30 = .ok (.iload_n 2, 1) := by decide +kernel
theorem d_R_worked_31 : decode c_R_worked 31 = .ok (.iadd, 1) := by decide +kernel
theorem d_R_worked_32 : decode c_R_worked 32 = .ok (.iaload, 1) := by decide +kernel
theorem d_R_worked_33 : decode c_R_worked 33 = .ok (.invokestatic 67, 3) := by decide +kernel
theorem d_R_worked_36 : decode c_R_worked 36 = .ok (.ixor, 1) := by decide +kernel
theorem d_R_worked_37 : decode c_R_worked 37 = .ok (.istore_n 3, 1) := by decide +kernel
theorem d_R_worked_38 : decode c_R_worked 38 = .ok (.iinc 4 (1), 3) := by decide +kernel
theorem d_R_worked_41 : decode c_R_worked 41 = .ok (.goto (-36), 3) := by decide +kernel
theorem d_R_worked_44 : decode c_R_worked 44 = .ok (.iload_n 3, 1) := by decide +kernel
theorem d_R_worked_45 : decode c_R_worked 45 = .ok (.ireturn, 1) := by decide +kernel
theorem d_R_writeRows_0 : decode c_R_writeRows 0 = .ok (.iconst (0), 1) := by decide +kernel
theorem d_R_writeRows_1 : decode c_R_writeRows 1 = .ok (.istore 4, 2) := by decide +kernel
theorem d_R_writeRows_3 : decode c_R_writeRows 3 = .ok (.iconst (0), 1) := by decide +kernel
theorem d_R_writeRows_4 : decode c_R_writeRows 4 = .ok (.istore 5, 2) := by decide +kernel
theorem d_R_writeRows_6 : decode c_R_writeRows 6 = .ok (.iload 5, 2) := by decide +kernel
theorem d_R_writeRows_8 : decode c_R_writeRows 8 = .ok (.aload_n 0, 1) := by decide +kernel
theorem d_R_writeRows_9 : decode c_R_writeRows 9 = .ok (.invokevirtual 51, 3) := by decide +kernel
theorem d_R_writeRows_12 : decode c_R_writeRows 12 = .ok (.if_icmp .ge (98), 3) := by decide +kernel
theorem d_R_writeRows_15 : decode c_R_writeRows 15 = .ok (.iload 4, 2) := by decide +kernel
theorem d_R_writeRows_17 : decode c_R_writeRows 17 = .ok (.aload_n 0, 1) := by decide +kernel
theorem d_R_writeRows_18 : decode c_R_writeRows 18 = .ok (.getfield 44, 3) := by decide +kernel
theorem d_R_writeRows_21 : decode c_R_writeRows 21 = .ok (.if_icmp .ge (89), 3) := by decide +kernel
theorem d_R_writeRows_24 : decode c_R_writeRows 24 = .ok (.aload_n 0, 1) := by decide +kernel
theorem d_R_writeRows_25 : decode c_R_writeRows 25 = .ok (.iload_n 1, 1) := by decide +kernel
theorem d_R_writeRows_26 : decode c_R_writeRows 26 = .ok (.iload_n 2, 1) := by decide +kernel
theorem d_R_writeRows_27 : decode c_R_writeRows 27 = .ok (.iload 5, 2) := by decide +kernel
theorem d_R_writeRows_29 : decode c_R_writeRows 29 = .ok (.invokevirtual 71, 3) := by decide +kernel
theorem d_R_writeRows_32 : decode c_R_writeRows 32 = .ok (.ifCond .lt (72), 3) := by decide +kernel
theorem d_R_writeRows_35 : decode c_R_writeRows 35 = .ok (.iconst (0), 1) := by decide +kernel
theorem d_R_writeRows_36 : decode c_R_writeRows 36 = .ok (.istore 6, 2) := by decide +kernel
theorem d_R_writeRows_38 : decode c_R_writeRows 38 = .ok (.iload 6, 2) := by decide +kernel
theorem d_R_writeRows_40 : decode c_R_writeRows 40 = .ok (.aload_n 0, 1) := by decide +kernel
theorem d_R_writeRows_41 : decode c_R_writeRows 41 = .ok (.getfield 44, 3) := by decide +kernel
theorem d_R_writeRows_44 : decode c_R_writeRows 44 = .ok (.if_icmp .ge (29), 3) := by decide +kernel
theorem d_R_writeRows_47 : decode c_R_writeRows 47 = .ok (.aload_n 0, 1) := by decide +kernel
theorem d_R_writeRows_48 : decode c_R_writeRows 48 = .ok (.getfield 41, 3) := by decide +kernel
theorem d_R_writeRows_51 : decode c_R_writeRows 51 = .ok (.iconst (5), 1) := by decide +kernel
theorem d_R_writeRows_52 : decode c_R_writeRows 52 = .ok (.iload 4, 2) := by decide +kernel
theorem d_R_writeRows_54 : decode c_R_writeRows 54 = .ok (.imul, 1) := by decide +kernel
theorem d_R_writeRows_55 : decode c_R_writeRows 55 = .ok (.iload 6, 2) := by decide +kernel
theorem d_R_writeRows_57 : decode c_R_writeRows 57 = .ok (.iadd, 1) := by decide +kernel
theorem d_R_writeRows_58 : decode c_R_writeRows 58 = .ok (.aload_n 0, 1) := by decide +kernel
theorem d_R_writeRows_59 : decode c_R_writeRows 59 = .ok (.iload 5, 2) := by decide +kernel
theorem d_R_writeRows_61 : decode c_R_writeRows 61 = .ok (.iload 6, 2) := by decide +kernel
theorem d_R_writeRows_63 : decode c_R_writeRows 63 = .ok (.invokevirtual 75, 3) := by decide +kernel
theorem d_R_writeRows_66 : decode c_R_writeRows 66 = .ok (.iastore, 1) := by decide +kernel
theorem d_R_writeRows_67 : decode c_R_writeRows 67 = .ok (.iinc 6 (1), 3) := by decide +kernel
theorem d_R_writeRows_70 : decode c_R_writeRows 70 = .ok (.goto (-32), 3) := by decide +kernel
theorem d_R_writeRows_73 : decode c_R_writeRows 73 = .ok (.aload_n 0, 1) := by decide +kernel
theorem d_R_writeRows_74 : decode c_R_writeRows 74 = .ok (.getfield 41, 3) := by decide +kernel
theorem d_R_writeRows_77 : decode c_R_writeRows 77 = .ok (.iconst (5), 1) := by decide +kernel
theorem d_R_writeRows_78 : decode c_R_writeRows 78 = .ok (.iload 4, 2) := by decide +kernel
theorem d_R_writeRows_80 : decode c_R_writeRows 80 = .ok (.imul, 1) := by decide +kernel
theorem d_R_writeRows_81 : decode c_R_writeRows 81 = .ok (.iconst (4), 1) := by decide +kernel
theorem d_R_writeRows_82 : decode c_R_writeRows 82 = .ok (.iadd, 1) := by decide +kernel
theorem d_R_writeRows_83 : decode c_R_writeRows 83 = .ok (.aload_n 0, 1) := by decide +kernel
theorem d_R_writeRows_84 : decode c_R_writeRows 84 = .ok (.getfield 20, 3) := by decide +kernel
theorem d_R_writeRows_87 : decode c_R_writeRows 87 = .ok (.iconst (4), 1) := by decide +kernel
theorem d_R_writeRows_88 : decode c_R_writeRows 88 = .ok (.aload_n 0, 1) := by decide +kernel
theorem d_R_writeRows_89 : decode c_R_writeRows 89 = .ok (.iload_n 1, 1) := by decide +kernel
theorem d_R_writeRows_90 : decode c_R_writeRows 90 = .ok (.iload_n 2, 1) := by decide +kernel
theorem d_R_writeRows_91 : decode c_R_writeRows 91 = .ok (.iload 5, 2) := by decide +kernel
theorem d_R_writeRows_93 : decode c_R_writeRows 93 = .ok (.invokevirtual 71, 3) := by decide +kernel
theorem d_R_writeRows_96 : decode c_R_writeRows 96 = .ok (.imul, 1) := by decide +kernel
theorem d_R_writeRows_97 : decode c_R_writeRows 97 = .ok (.iload_n 3, 1) := by decide +kernel
theorem d_R_writeRows_98 : decode c_R_writeRows 98 = .ok (.iadd, 1) := by decide +kernel
theorem d_R_writeRows_99 : decode c_R_writeRows 99 = .ok (.iaload, 1) := by decide +kernel
theorem d_R_writeRows_100 : decode c_R_writeRows 100 = .ok (.iastore, 1) := by decide +kernel
theorem d_R_writeRows_101 : decode c_R_writeRows 101 = .ok (.iinc 4 (1), 3) := by decide +kernel
theorem d_R_writeRows_104 : decode c_R_writeRows 104 = .ok (.iinc 5 (1), 3) := by decide +kernel
theorem d_R_writeRows_107 : decode c_R_writeRows 107 = .ok (.goto (-101), 3) := by decide +kernel
theorem d_R_writeRows_110 : decode c_R_writeRows 110 = .ok (.return_, 1) := by decide +kernel
theorem d_R_solve_0 : decode c_R_solve 0 = .ok (.iconst (0), 1) := by decide +kernel
theorem d_R_solve_1 : decode c_R_solve 1 = .ok (.istore_n 1, 1) := by decide +kernel
theorem d_R_solve_2 : decode c_R_solve 2 = .ok (.iload_n 1, 1) := by decide +kernel
theorem d_R_solve_3 : decode c_R_solve 3 = .ok (.aload_n 0, 1) := by decide +kernel
theorem d_R_solve_4 : decode c_R_solve 4 = .ok (.getfield 44, 3) := by decide +kernel
theorem d_R_solve_7 : decode c_R_solve 7 = .ok (.if_icmp .ge (208), 3) := by decide +kernel
theorem d_R_solve_10 : decode c_R_solve 10 = .ok (.iload_n 1, 1) := by decide +kernel
theorem d_R_solve_11 : decode c_R_solve 11 = .ok (.istore_n 2, 1) := by decide +kernel
theorem d_R_solve_12 : decode c_R_solve 12 = .ok (.aload_n 0, 1) := by decide +kernel
theorem d_R_solve_13 : decode c_R_solve 13 = .ok (.getfield 41, 3) := by decide +kernel
theorem d_R_solve_16 : decode c_R_solve 16 = .ok (.iconst (5), 1) := by decide +kernel
theorem d_R_solve_17 : decode c_R_solve 17 = .ok (.iload_n 2, 1) := by decide +kernel
theorem d_R_solve_18 : decode c_R_solve 18 = .ok (.imul, 1) := by decide +kernel
theorem d_R_solve_19 : decode c_R_solve 19 = .ok (.iload_n 1, 1) := by decide +kernel
theorem d_R_solve_20 : decode c_R_solve 20 = .ok (.iadd, 1) := by decide +kernel
theorem d_R_solve_21 : decode c_R_solve 21 = .ok (.iaload, 1) := by decide +kernel
theorem d_R_solve_22 : decode c_R_solve 22 = .ok (.ifCond .ne (9), 3) := by decide +kernel
theorem d_R_solve_25 : decode c_R_solve 25 = .ok (.iinc 2 (1), 3) := by decide +kernel
theorem d_R_solve_28 : decode c_R_solve 28 = .ok (.goto (-16), 3) := by decide +kernel
theorem d_R_solve_31 : decode c_R_solve 31 = .ok (.aload_n 0, 1) := by decide +kernel
theorem d_R_solve_32 : decode c_R_solve 32 = .ok (.getfield 41, 3) := by decide +kernel
theorem d_R_solve_35 : decode c_R_solve 35 = .ok (.iconst (5), 1) := by decide +kernel
theorem d_R_solve_36 : decode c_R_solve 36 = .ok (.iload_n 2, 1) := by decide +kernel
theorem d_R_solve_37 : decode c_R_solve 37 = .ok (.imul, 1) := by decide +kernel
theorem d_R_solve_38 : decode c_R_solve 38 = .ok (.iload_n 1, 1) := by decide +kernel
theorem d_R_solve_39 : decode c_R_solve 39 = .ok (.iadd, 1) := by decide +kernel
theorem d_R_solve_40 : decode c_R_solve 40 = .ok (.iaload, 1) := by decide +kernel
theorem d_R_solve_41 : decode c_R_solve 41 = .ok (.invokestatic 55, 3) := by decide +kernel
theorem d_R_solve_44 : decode c_R_solve 44 = .ok (.istore_n 3, 1) := by decide +kernel
theorem d_R_solve_45 : decode c_R_solve 45 = .ok (.iconst (0), 1) := by decide +kernel
theorem d_R_solve_46 : decode c_R_solve 46 = .ok (.istore 4, 2) := by decide +kernel
theorem d_R_solve_48 : decode c_R_solve 48 = .ok (.iload 4, 2) := by decide +kernel
theorem d_R_solve_50 : decode c_R_solve 50 = .ok (.iconst (5), 1) := by decide +kernel
theorem d_R_solve_51 : decode c_R_solve 51 = .ok (.if_icmp .ge (61), 3) := by decide +kernel
theorem d_R_solve_54 : decode c_R_solve 54 = .ok (.iload_n 3, 1) := by decide +kernel
theorem d_R_solve_55 : decode c_R_solve 55 = .ok (.aload_n 0, 1) := by decide +kernel
theorem d_R_solve_56 : decode c_R_solve 56 = .ok (.getfield 41, 3) := by decide +kernel
theorem d_R_solve_59 : decode c_R_solve 59 = .ok (.iconst (5), 1) := by decide +kernel
theorem d_R_solve_60 : decode c_R_solve 60 = .ok (.iload_n 2, 1) := by decide +kernel
theorem d_R_solve_61 : decode c_R_solve 61 = .ok (.imul, 1) := by decide +kernel
theorem d_R_solve_62 : decode c_R_solve 62 = .ok (.iload 4, 2) := by decide +kernel
theorem d_R_solve_64 : decode c_R_solve 64 = .ok (.iadd, 1) := by decide +kernel
theorem d_R_solve_65 : decode c_R_solve 65 = .ok (.iaload, 1) := by decide +kernel
theorem d_R_solve_66 : decode c_R_solve 66 = .ok (.invokestatic 67, 3) := by decide +kernel
theorem d_R_solve_69 : decode c_R_solve 69 = .ok (.istore 5, 2) := by decide +kernel
theorem d_R_solve_71 : decode c_R_solve 71 = .ok (.aload_n 0, 1) := by decide +kernel
theorem d_R_solve_72 : decode c_R_solve 72 = .ok (.getfield 41, 3) := by decide +kernel
theorem d_R_solve_75 : decode c_R_solve 75 = .ok (.iconst (5), 1) := by decide +kernel
theorem d_R_solve_76 : decode c_R_solve 76 = .ok (.iload_n 2, 1) := by decide +kernel
theorem d_R_solve_77 : decode c_R_solve 77 = .ok (.imul, 1) := by decide +kernel
theorem d_R_solve_78 : decode c_R_solve 78 = .ok (.iload 4, 2) := by decide +kernel
theorem d_R_solve_80 : decode c_R_solve 80 = .ok (.iadd, 1) := by decide +kernel
theorem d_R_solve_81 : decode c_R_solve 81 = .ok (.aload_n 0, 1) := by decide +kernel
theorem d_R_solve_82 : decode c_R_solve 82 = .ok (.getfield 41, 3) := by decide +kernel
theorem d_R_solve_85 : decode c_R_solve 85 = .ok (.iconst (5), 1) := by decide +kernel
theorem d_R_solve_86 : decode c_R_solve 86 = .ok (.iload_n 1, 1) := by decide +kernel
theorem d_R_solve_87 : decode c_R_solve 87 = .ok (.imul, 1) := by decide +kernel
theorem d_R_solve_88 : decode c_R_solve 88 = .ok (.iload 4, 2) := by decide +kernel
theorem d_R_solve_90 : decode c_R_solve 90 = .ok (.iadd, 1) := by decide +kernel
theorem d_R_solve_91 : decode c_R_solve 91 = .ok (.iaload, 1) := by decide +kernel
theorem d_R_solve_92 : decode c_R_solve 92 = .ok (.iastore, 1) := by decide +kernel
theorem d_R_solve_93 : decode c_R_solve 93 = .ok (.aload_n 0, 1) := by decide +kernel
theorem d_R_solve_94 : decode c_R_solve 94 = .ok (.getfield 41, 3) := by decide +kernel
theorem d_R_solve_97 : decode c_R_solve 97 = .ok (.iconst (5), 1) := by decide +kernel
theorem d_R_solve_98 : decode c_R_solve 98 = .ok (.iload_n 1, 1) := by decide +kernel
theorem d_R_solve_99 : decode c_R_solve 99 = .ok (.imul, 1) := by decide +kernel
theorem d_R_solve_100 : decode c_R_solve 100 = .ok (.iload 4, 2) := by decide +kernel
theorem d_R_solve_102 : decode c_R_solve 102 = .ok (.iadd, 1) := by decide +kernel
theorem d_R_solve_103 : decode c_R_solve 103 = .ok (.iload 5, 2) := by decide +kernel
theorem d_R_solve_105 : decode c_R_solve 105 = .ok (.iastore, 1) := by decide +kernel
theorem d_R_solve_106 : decode c_R_solve 106 = .ok (.iinc 4 (1), 3) := by decide +kernel
theorem d_R_solve_109 : decode c_R_solve 109 = .ok (.goto (-61), 3) := by decide +kernel
theorem d_R_solve_112 : decode c_R_solve 112 = .ok (.iconst (0), 1) := by decide +kernel
theorem d_R_solve_113 : decode c_R_solve 113 = .ok (.istore 4, 2) := by decide +kernel
theorem d_R_solve_115 : decode c_R_solve 115 = .ok (.iload 4, 2) := by decide +kernel
theorem d_R_solve_117 : decode c_R_solve 117 = .ok (.aload_n 0, 1) := by decide +kernel
theorem d_R_solve_118 : decode c_R_solve 118 = .ok (.getfield 44, 3) := by decide +kernel
theorem d_R_solve_121 : decode c_R_solve 121 = .ok (.if_icmp .ge (88), 3) := by decide +kernel
theorem d_R_solve_124 : decode c_R_solve 124 = .ok (.iload 4, 2) := by decide +kernel
theorem d_R_solve_126 : decode c_R_solve 126 = .ok (.iload_n 1, 1) := by decide +kernel
theorem d_R_solve_127 : decode c_R_solve 127 = .ok (.if_icmp .ne (7), 3) := by decide +kernel
theorem d_R_solve_130 : decode c_R_solve 130 = .ok (.iconst (0), 1) := by decide +kernel
theorem d_R_solve_131 : decode c_R_solve 131 = .ok (.goto (14), 3) := by decide +kernel
theorem d_R_solve_134 : decode c_R_solve 134 = .ok (.aload_n 0, 1) := by decide +kernel
theorem d_R_solve_135 : decode c_R_solve 135 = .ok (.getfield 41, 3) := by decide +kernel
theorem d_R_solve_138 : decode c_R_solve 138 = .ok (.iconst (5), 1) := by decide +kernel
theorem d_R_solve_139 : decode c_R_solve 139 = .ok (.iload 4, 2) := by decide +kernel
theorem d_R_solve_141 : decode c_R_solve 141 = .ok (.imul, 1) := by decide +kernel
theorem d_R_solve_142 : decode c_R_solve 142 = .ok (.iload_n 1, 1) := by decide +kernel
theorem d_R_solve_143 : decode c_R_solve 143 = .ok (.iadd, 1) := by decide +kernel
theorem d_R_solve_144 : decode c_R_solve 144 = .ok (.iaload, 1) := by decide +kernel
theorem d_R_solve_145 : decode c_R_solve 145 = .ok (.istore 5, 2) := by decide +kernel
theorem d_R_solve_147 : decode c_R_solve 147 = .ok (.iconst (0), 1) := by decide +kernel
theorem d_R_solve_148 : decode c_R_solve 148 = .ok (.istore 6, 2) := by decide +kernel
theorem d_R_solve_150 : decode c_R_solve 150 = .ok (.iload 6, 2) := by decide +kernel
theorem d_R_solve_152 : decode c_R_solve 152 = .ok (.iconst (5), 1) := by decide +kernel
theorem d_R_solve_153 : decode c_R_solve 153 = .ok (.if_icmp .ge (50), 3) := by decide +kernel
theorem d_R_solve_156 : decode c_R_solve 156 = .ok (.aload_n 0, 1) := by decide +kernel
theorem d_R_solve_157 : decode c_R_solve 157 = .ok (.getfield 41, 3) := by decide +kernel
theorem d_R_solve_160 : decode c_R_solve 160 = .ok (.iconst (5), 1) := by decide +kernel
theorem d_R_solve_161 : decode c_R_solve 161 = .ok (.iload 4, 2) := by decide +kernel
theorem d_R_solve_163 : decode c_R_solve 163 = .ok (.imul, 1) := by decide +kernel
theorem d_R_solve_164 : decode c_R_solve 164 = .ok (.iload 6, 2) := by decide +kernel
theorem d_R_solve_166 : decode c_R_solve 166 = .ok (.iadd, 1) := by decide +kernel
theorem d_R_solve_167 : decode c_R_solve 167 = .ok (.aload_n 0, 1) := by decide +kernel
theorem d_R_solve_168 : decode c_R_solve 168 = .ok (.getfield 41, 3) := by decide +kernel
theorem d_R_solve_171 : decode c_R_solve 171 = .ok (.iconst (5), 1) := by decide +kernel
theorem d_R_solve_172 : decode c_R_solve 172 = .ok (.iload 4, 2) := by decide +kernel
theorem d_R_solve_174 : decode c_R_solve 174 = .ok (.imul, 1) := by decide +kernel
theorem d_R_solve_175 : decode c_R_solve 175 = .ok (.iload 6, 2) := by decide +kernel
theorem d_R_solve_177 : decode c_R_solve 177 = .ok (.iadd, 1) := by decide +kernel
theorem d_R_solve_178 : decode c_R_solve 178 = .ok (.iaload, 1) := by decide +kernel
theorem d_R_solve_179 : decode c_R_solve 179 = .ok (.iload 5, 2) := by decide +kernel
theorem d_R_solve_181 : decode c_R_solve 181 = .ok (.aload_n 0, 1) := by decide +kernel
theorem d_R_solve_182 : decode c_R_solve 182 = .ok (.getfield 41, 3) := by decide +kernel
theorem d_R_solve_185 : decode c_R_solve 185 = .ok (.iconst (5), 1) := by decide +kernel
theorem d_R_solve_186 : decode c_R_solve 186 = .ok (.iload_n 1, 1) := by decide +kernel
theorem d_R_solve_187 : decode c_R_solve 187 = .ok (.imul, 1) := by decide +kernel
theorem d_R_solve_188 : decode c_R_solve 188 = .ok (.iload 6, 2) := by decide +kernel
theorem d_R_solve_190 : decode c_R_solve 190 = .ok (.iadd, 1) := by decide +kernel
theorem d_R_solve_191 : decode c_R_solve 191 = .ok (.iaload, 1) := by decide +kernel
theorem d_R_solve_192 : decode c_R_solve 192 = .ok (.invokestatic 67, 3) := by decide +kernel
theorem d_R_solve_195 : decode c_R_solve 195 = .ok (.ixor, 1) := by decide +kernel
theorem d_R_solve_196 : decode c_R_solve 196 = .ok (.iastore, 1) := by decide +kernel
theorem d_R_solve_197 : decode c_R_solve 197 = .ok (.iinc 6 (1), 3) := by decide +kernel
theorem d_R_solve_200 : decode c_R_solve 200 = .ok (.goto (-50), 3) := by decide +kernel
theorem d_R_solve_203 : decode c_R_solve 203 = .ok (.iinc 4 (1), 3) := by decide +kernel
theorem d_R_solve_206 : decode c_R_solve 206 = .ok (.goto (-91), 3) := by decide +kernel
theorem d_R_solve_209 : decode c_R_solve 209 = .ok (.iinc 1 (1), 3) := by decide +kernel
theorem d_R_solve_212 : decode c_R_solve 212 = .ok (.goto (-210), 3) := by decide +kernel
theorem d_R_solve_215 : decode c_R_solve 215 = .ok (.return_, 1) := by decide +kernel
theorem d_R_readStripe_0 : decode c_R_readStripe 0 = .ok (.iconst (0), 1) := by decide +kernel
theorem d_R_readStripe_1 : decode c_R_readStripe 1 = .ok (.istore_n 3, 1) := by decide +kernel
theorem d_R_readStripe_2 : decode c_R_readStripe 2 = .ok (.iload_n 3, 1) := by decide +kernel
theorem d_R_readStripe_3 : decode c_R_readStripe 3 = .ok (.iconst (4), 1) := by decide +kernel
theorem d_R_readStripe_4 : decode c_R_readStripe 4 = .ok (.if_icmp .ge (60), 3) := by decide +kernel
theorem d_R_readStripe_7 : decode c_R_readStripe 7 = .ok (.aload_n 0, 1) := by decide +kernel
theorem d_R_readStripe_8 : decode c_R_readStripe 8 = .ok (.iload_n 1, 1) := by decide +kernel
theorem d_R_readStripe_9 : decode c_R_readStripe 9 = .ok (.iload_n 2, 1) := by decide +kernel
theorem d_R_readStripe_10 : decode c_R_readStripe 10 = .ok (.iload_n 3, 1) := by decide +kernel
theorem d_R_readStripe_11 : decode c_R_readStripe 11 = .ok (.invokevirtual 78, 3) := by decide +kernel
theorem d_R_readStripe_14 : decode c_R_readStripe 14 = .ok (.aload_n 0, 1) := by decide +kernel
theorem d_R_readStripe_15 : decode c_R_readStripe 15 = .ok (.invokevirtual 82, 3) := by decide +kernel
theorem d_R_readStripe_18 : decode c_R_readStripe 18 = .ok (.iconst (0), 1) := by decide +kernel
theorem d_R_readStripe_19 : decode c_R_readStripe 19 = .ok (.istore 4, 2) := by decide +kernel
theorem d_R_readStripe_21 : decode c_R_readStripe 21 = .ok (.iload 4, 2) := by decide +kernel
theorem d_R_readStripe_23 : decode c_R_readStripe 23 = .ok (.aload_n 0, 1) := by decide +kernel
theorem d_R_readStripe_24 : decode c_R_readStripe 24 = .ok (.getfield 44, 3) := by decide +kernel
theorem d_R_readStripe_27 : decode c_R_readStripe 27 = .ok (.if_icmp .ge (31), 3) := by decide +kernel
theorem d_R_readStripe_30 : decode c_R_readStripe 30 = .ok (.aload_n 0, 1) := by decide +kernel
theorem d_R_readStripe_31 : decode c_R_readStripe 31 = .ok (.getfield 38, 3) := by decide +kernel
theorem d_R_readStripe_34 : decode c_R_readStripe 34 = .ok (.iconst (4), 1) := by decide +kernel
theorem d_R_readStripe_35 : decode c_R_readStripe 35 = .ok (.iload 4, 2) := by decide +kernel
theorem d_R_readStripe_37 : decode c_R_readStripe 37 = .ok (.imul, 1) := by decide +kernel
theorem d_R_readStripe_38 : decode c_R_readStripe 38 = .ok (.iload_n 3, 1) := by decide +kernel
theorem d_R_readStripe_39 : decode c_R_readStripe 39 = .ok (.iadd, 1) := by decide +kernel
theorem d_R_readStripe_40 : decode c_R_readStripe 40 = .ok (.aload_n 0, 1) := by decide +kernel
theorem d_R_readStripe_41 : decode c_R_readStripe 41 = .ok (.getfield 41, 3) := by decide +kernel
theorem d_R_readStripe_44 : decode c_R_readStripe 44 = .ok (.iconst (5), 1) := by decide +kernel
theorem d_R_readStripe_45 : decode c_R_readStripe 45 = .ok (.iload 4, 2) := by decide +kernel
theorem d_R_readStripe_47 : decode c_R_readStripe 47 = .ok (.imul, 1) := by decide +kernel
theorem d_R_readStripe_48 : decode c_R_readStripe 48 = .ok (.iconst (4), 1) := by decide +kernel
theorem d_R_readStripe_49 : decode c_R_readStripe 49 = .ok (.iadd, 1) := by decide +kernel
theorem d_R_readStripe_50 : decode c_R_readStripe 50 = .ok (.iaload, 1) := by decide +kernel
theorem d_R_readStripe_51 : decode c_R_readStripe 51 = .ok (.iastore, 1) := by decide +kernel
theorem d_R_readStripe_52 : decode c_R_readStripe 52 = .ok (.iinc 4 (1), 3) := by decide +kernel
theorem d_R_readStripe_55 : decode c_R_readStripe 55 = .ok (.goto (-34), 3) := by decide +kernel
theorem d_R_readStripe_58 : decode c_R_readStripe 58 = .ok (.iinc 3 (1), 3) := by decide +kernel
theorem d_R_readStripe_61 : decode c_R_readStripe 61 = .ok (.goto (-59), 3) := by decide +kernel
theorem d_R_readStripe_64 : decode c_R_readStripe 64 = .ok (.return_, 1) := by decide +kernel
theorem d_R_free_0 : decode c_R_free 0 = .ok (.iconst (0), 1) := by decide +kernel
theorem d_R_free_1 : decode c_R_free 1 = .ok (.istore_n 2, 1) := by decide +kernel
theorem d_R_free_2 : decode c_R_free 2 = .ok (.iconst (0), 1) := by decide +kernel
theorem d_R_free_3 : decode c_R_free 3 = .ok (.istore_n 3, 1) := by decide +kernel
theorem d_R_free_4 : decode c_R_free 4 = .ok (.iload_n 3, 1) := by decide +kernel
theorem d_R_free_5 : decode c_R_free 5 = .ok (.bipush (10), 2) := by decide +kernel
theorem d_R_free_7 : decode c_R_free 7 = .ok (.if_icmp .ge (31), 3) := by decide +kernel
theorem d_R_free_10 : decode c_R_free 10 = .ok (.aload_n 0, 1) := by decide +kernel
theorem d_R_free_11 : decode c_R_free 11 = .ok (.getfield 17, 3) := by decide +kernel
theorem d_R_free_14 : decode c_R_free 14 = .ok (.bipush (10), 2) := by decide +kernel
theorem d_R_free_16 : decode c_R_free 16 = .ok (.iload_n 1, 1) := by decide +kernel
theorem d_R_free_17 : decode c_R_free 17 = .ok (.imul, 1) := by decide +kernel
theorem d_R_free_18 : decode c_R_free 18 = .ok (.iload_n 3, 1) := by decide +kernel
theorem d_R_free_19 : decode c_R_free 19 = .ok (.iadd, 1) := by decide +kernel
theorem d_R_free_20 : decode c_R_free 20 = .ok (.baload, 1) := by decide +kernel
theorem d_R_free_21 : decode c_R_free 21 = .ok (.ifCond .eq (7), 3) := by decide +kernel
theorem d_R_free_24 : decode c_R_free 24 = .ok (.iload_n 2, 1) := by decide +kernel
theorem d_R_free_25 : decode c_R_free 25 = .ok (.goto (6), 3) := by decide +kernel
theorem d_R_free_28 : decode c_R_free 28 = .ok (.iload_n 2, 1) := by decide +kernel
theorem d_R_free_29 : decode c_R_free 29 = .ok (.iconst (1), 1) := by decide +kernel
theorem d_R_free_30 : decode c_R_free 30 = .ok (.iadd, 1) := by decide +kernel
theorem d_R_free_31 : decode c_R_free 31 = .ok (.istore_n 2, 1) := by decide +kernel
theorem d_R_free_32 : decode c_R_free 32 = .ok (.iinc 3 (1), 3) := by decide +kernel
theorem d_R_free_35 : decode c_R_free 35 = .ok (.goto (-31), 3) := by decide +kernel
theorem d_R_free_38 : decode c_R_free 38 = .ok (.aload_n 0, 1) := by decide +kernel
theorem d_R_free_39 : decode c_R_free 39 = .ok (.getfield 13, 3) := by decide +kernel
theorem d_R_free_42 : decode c_R_free 42 = .ok (.iload_n 1, 1) := by decide +kernel
theorem d_R_free_43 : decode c_R_free 43 = .ok (.baload, 1) := by decide +kernel
theorem d_R_free_44 : decode c_R_free 44 = .ok (.ifCond .eq (7), 3) := by decide +kernel
theorem d_R_free_47 : decode c_R_free 47 = .ok (.iload_n 2, 1) := by decide +kernel
theorem d_R_free_48 : decode c_R_free 48 = .ok (.goto (4), 3) := by decide +kernel
theorem d_R_free_51 : decode c_R_free 51 = .ok (.iconst (0), 1) := by decide +kernel
theorem d_R_free_52 : decode c_R_free 52 = .ok (.ireturn, 1) := by decide +kernel
theorem d_R_slotFor_0 : decode c_R_slotFor 0 = .ok (.iconst (-1), 1) := by decide +kernel
theorem d_R_slotFor_1 : decode c_R_slotFor 1 = .ok (.istore_n 3, 1) := by decide +kernel
theorem d_R_slotFor_2 : decode c_R_slotFor 2 = .ok (.iconst (0), 1) := by decide +kernel
theorem d_R_slotFor_3 : decode c_R_slotFor 3 = .ok (.istore 4, 2) := by decide +kernel
theorem d_R_slotFor_5 : decode c_R_slotFor 5 = .ok (.iload 4, 2) := by decide +kernel
theorem d_R_slotFor_7 : decode c_R_slotFor 7 = .ok (.bipush (8), 2) := by decide +kernel
theorem d_R_slotFor_9 : decode c_R_slotFor 9 = .ok (.if_icmp .ge (112), 3) := by decide +kernel
theorem d_R_slotFor_12 : decode c_R_slotFor 12 = .ok (.aload_n 0, 1) := by decide +kernel
theorem d_R_slotFor_13 : decode c_R_slotFor 13 = .ok (.iload 4, 2) := by decide +kernel
theorem d_R_slotFor_15 : decode c_R_slotFor 15 = .ok (.invokevirtual 85, 3) := by decide +kernel
theorem d_R_slotFor_18 : decode c_R_slotFor 18 = .ok (.ifCond .le (7), 3) := by decide +kernel
theorem d_R_slotFor_21 : decode c_R_slotFor 21 = .ok (.iconst (1), 1) := by decide +kernel
theorem d_R_slotFor_22 : decode c_R_slotFor 22 = .ok (.goto (4), 3) := by decide +kernel
theorem d_R_slotFor_25 : decode c_R_slotFor 25 = .ok (.iconst (0), 1) := by decide +kernel
theorem d_R_slotFor_26 : decode c_R_slotFor 26 = .ok (.istore 5, 2) := by decide +kernel
theorem d_R_slotFor_28 : decode c_R_slotFor 28 = .ok (.iconst (0), 1) := by decide +kernel
theorem d_R_slotFor_29 : decode c_R_slotFor 29 = .ok (.istore 6, 2) := by decide +kernel
theorem d_R_slotFor_31 : decode c_R_slotFor 31 = .ok (.iload 6, 2) := by decide +kernel
theorem d_R_slotFor_33 : decode c_R_slotFor 33 = .ok (.aload_n 0, 1) := by decide +kernel
theorem d_R_slotFor_34 : decode c_R_slotFor 34 = .ok (.invokevirtual 51, 3) := by decide +kernel
theorem d_R_slotFor_37 : decode c_R_slotFor 37 = .ok (.if_icmp .ge (48), 3) := by decide +kernel
theorem d_R_slotFor_40 : decode c_R_slotFor 40 = .ok (.iload 5, 2) := by decide +kernel
theorem d_R_slotFor_42 : decode c_R_slotFor 42 = .ok (.ifCond .eq (34), 3) := by decide +kernel
theorem d_R_slotFor_45 : decode c_R_slotFor 45 = .ok (.aload_n 0, 1) := by decide +kernel
theorem d_R_slotFor_46 : decode c_R_slotFor 46 = .ok (.iload_n 1, 1) := by decide +kernel
theorem d_R_slotFor_47 : decode c_R_slotFor 47 = .ok (.iload_n 2, 1) := by decide +kernel
theorem d_R_slotFor_48 : decode c_R_slotFor 48 = .ok (.iload 6, 2) := by decide +kernel
theorem d_R_slotFor_50 : decode c_R_slotFor 50 = .ok (.invokevirtual 71, 3) := by decide +kernel
theorem d_R_slotFor_53 : decode c_R_slotFor 53 = .ok (.ifCond .lt (19), 3) := by decide +kernel
theorem d_R_slotFor_56 : decode c_R_slotFor 56 = .ok (.aload_n 0, 1) := by decide +kernel
theorem d_R_slotFor_57 : decode c_R_slotFor 57 = .ok (.iload_n 1, 1) := by decide +kernel
theorem d_R_slotFor_58 : decode c_R_slotFor 58 = .ok (.iload_n 2, 1) := by decide +kernel
theorem d_R_slotFor_59 : decode c_R_slotFor 59 = .ok (.iload 6, 2) := by decide +kernel
theorem d_R_slotFor_61 : decode c_R_slotFor 61 = .ok (.invokevirtual 71, 3) := by decide +kernel
theorem d_R_slotFor_64 : decode c_R_slotFor 64 = .ok (.bipush (10), 2) := by decide +kernel
theorem d_R_slotFor_66 : decode c_R_slotFor 66 = .ok (.idiv, 1) := by decide +kernel
theorem d_R_slotFor_67 : decode c_R_slotFor 67 = .ok (.iload 4, 2) := by decide +kernel
theorem d_R_slotFor_69 : decode c_R_slotFor 69 = .ok (.if_icmp .eq (7), 3) := by decide +kernel
theorem d_R_slotFor_72 : decode c_R_slotFor 72 = .ok (.iconst (1), 1) := by decide +kernel
theorem d_R_slotFor_73 : decode c_R_slotFor 73 = .ok (.goto (4), 3) := by decide +kernel
theorem d_R_slotFor_76 : decode c_R_slotFor 76 = .ok (.iconst (0), 1) := by decide +kernel
theorem d_R_slotFor_77 : decode c_R_slotFor 77 = .ok (.istore 5, 2) := by decide +kernel
theorem d_R_slotFor_79 : decode c_R_slotFor 79 = .ok (.iinc 6 (1), 3) := by decide +kernel
theorem d_R_slotFor_82 : decode c_R_slotFor 82 = .ok (.goto (-51), 3) := by decide +kernel
theorem d_R_slotFor_85 : decode c_R_slotFor 85 = .ok (.iload 5, 2) := by decide +kernel
theorem d_R_slotFor_87 : decode c_R_slotFor 87 = .ok (.ifCond .eq (26), 3) := by decide +kernel
theorem d_R_slotFor_90 : decode c_R_slotFor 90 = .ok (.iload_n 3, 1) := by decide +kernel
theorem d_R_slotFor_91 : decode c_R_slotFor 91 = .ok (.ifCond .lt (17), 3) := by decide +kernel
theorem d_R_slotFor_94 : decode c_R_slotFor 94 = .ok (.aload_n 0, 1) := by decide +kernel
theorem d_R_slotFor_95 : decode c_R_slotFor 95 = .ok (.iload 4, 2) := by decide +kernel
theorem d_R_slotFor_97 : decode c_R_slotFor 97 = .ok (.invokevirtual 85, 3) := by decide +kernel
theorem d_R_slotFor_100 : decode c_R_slotFor 100 = .ok (.aload_n 0, 1) := by decide +kernel
theorem d_R_slotFor_101 : decode c_R_slotFor 101 = .ok (.iload_n 3, 1) := by decide +kernel
theorem d_R_slotFor_102 : decode c_R_slotFor 102 = .ok (.invokevirtual 85, 3) := by decide +kernel
theorem d_R_slotFor_105 : decode c_R_slotFor 105 = .ok (.if_icmp .le (8), 3) := by decide +kernel
theorem d_R_slotFor_108 : decode c_R_slotFor 108 = .ok (.iload 4, 2) := by decide +kernel
theorem d_R_slotFor_110 : decode c_R_slotFor 110 = .ok (.goto (4), 3) := by decide +kernel
theorem d_R_slotFor_113 : decode c_R_slotFor 113 = .ok (.iload_n 3, 1) := by decide +kernel
theorem d_R_slotFor_114 : decode c_R_slotFor 114 = .ok (.istore_n 3, 1) := by decide +kernel
theorem d_R_slotFor_115 : decode c_R_slotFor 115 = .ok (.iinc 4 (1), 3) := by decide +kernel
theorem d_R_slotFor_118 : decode c_R_slotFor 118 = .ok (.goto (-113), 3) := by decide +kernel
theorem d_R_slotFor_121 : decode c_R_slotFor 121 = .ok (.iload_n 3, 1) := by decide +kernel
theorem d_R_slotFor_122 : decode c_R_slotFor 122 = .ok (.ifCond .ge (5), 3) := by decide +kernel
theorem d_R_slotFor_125 : decode c_R_slotFor 125 = .ok (.iconst (-1), 1) := by decide +kernel
theorem d_R_slotFor_126 : decode c_R_slotFor 126 = .ok (.ireturn, 1) := by decide +kernel
theorem d_R_slotFor_127 : decode c_R_slotFor 127 = .ok (.bipush (10), 2) := by decide +kernel
theorem d_R_slotFor_129 : decode c_R_slotFor 129 = .ok (.iload_n 3, 1) := by decide +kernel
theorem d_R_slotFor_130 : decode c_R_slotFor 130 = .ok (.imul, 1) := by decide +kernel
theorem d_R_slotFor_131 : decode c_R_slotFor 131 = .ok (.istore 4, 2) := by decide +kernel
theorem d_R_slotFor_133 : decode c_R_slotFor 133 = .ok (.aload_n 0, 1) := by decide +kernel
theorem d_R_slotFor_134 : decode c_R_slotFor 134 = .ok (.getfield 17, 3) := by decide +kernel
theorem d_R_slotFor_137 : decode c_R_slotFor 137 = .ok (.iload 4, 2) := by decide +kernel
theorem d_R_slotFor_139 : decode c_R_slotFor 139 = .ok (.baload, 1) := by decide +kernel
theorem d_R_slotFor_140 : decode c_R_slotFor 140 = .ok (.ifCond .eq (9), 3) := by decide +kernel
theorem d_R_slotFor_143 : decode c_R_slotFor 143 = .ok (.iinc 4 (1), 3) := by decide +kernel
theorem d_R_slotFor_146 : decode c_R_slotFor 146 = .ok (.goto (-13), 3) := by decide +kernel
theorem d_R_slotFor_149 : decode c_R_slotFor 149 = .ok (.iload 4, 2) := by decide +kernel
theorem d_R_slotFor_151 : decode c_R_slotFor 151 = .ok (.ireturn, 1) := by decide +kernel
theorem d_R_lay_0 : decode c_R_lay 0 = .ok (.aload_n 0, 1) := by decide +kernel
theorem d_R_lay_1 : decode c_R_lay 1 = .ok (.iload_n 1, 1) := by decide +kernel
theorem d_R_lay_2 : decode c_R_lay 2 = .ok (.iload_n 2, 1) := by decide +kernel
theorem d_R_lay_3 : decode c_R_lay 3 = .ok (.invokevirtual 88, 3) := by decide +kernel
theorem d_R_lay_6 : decode c_R_lay 6 = .ok (.istore 4, 2) := by decide +kernel
theorem d_R_lay_8 : decode c_R_lay 8 = .ok (.iload 4, 2) := by decide +kernel
theorem d_R_lay_10 : decode c_R_lay 10 = .ok (.ifCond .ge (5), 3) := by decide +kernel
theorem d_R_lay_13 : decode c_R_lay 13 = .ok (.iconst (0), 1) := by decide +kernel
theorem d_R_lay_14 : decode c_R_lay 14 = .ok (.ireturn, 1) := by decide +kernel
theorem d_R_lay_15 : decode c_R_lay 15 = .ok (.aload_n 0, 1) := by decide +kernel
theorem d_R_lay_16 : decode c_R_lay 16 = .ok (.getfield 17, 3) := by decide +kernel
theorem d_R_lay_19 : decode c_R_lay 19 = .ok (.iload 4, 2) := by decide +kernel
theorem d_R_lay_21 : decode c_R_lay 21 = .ok (.iconst (1), 1) := by decide +kernel
theorem d_R_lay_22 : decode c_R_lay 22 = .ok (.bastore, 1) := by decide +kernel
theorem d_R_lay_23 : decode c_R_lay 23 = .ok (.aload_n 0, 1) := by decide +kernel
theorem d_R_lay_24 : decode c_R_lay 24 = .ok (.getfield 26, 3) := by decide +kernel
theorem d_R_lay_27 : decode c_R_lay 27 = .ok (.bipush (56), 2) := by decide +kernel
theorem d_R_lay_29 : decode c_R_lay 29 = .ok (.iload_n 1, 1) := by decide +kernel
theorem d_R_lay_30 : decode c_R_lay 30 = .ok (.imul, 1) := by decide +kernel
theorem d_R_lay_31 : decode c_R_lay 31 = .ok (.bipush (7), 2) := by decide +kernel
theorem d_R_lay_33 : decode c_R_lay 33 = .ok (.iload_n 2, 1) := by decide +kernel
theorem d_R_lay_34 : decode c_R_lay 34 = .ok (.imul, 1) := by decide +kernel
theorem d_R_lay_35 : decode c_R_lay 35 = .ok (.iadd, 1) := by decide +kernel
theorem d_R_lay_36 : decode c_R_lay 36 = .ok (.iload_n 3, 1) := by decide +kernel
theorem d_R_lay_37 : decode c_R_lay 37 = .ok (.iadd, 1) := by decide +kernel
theorem d_R_lay_38 : decode c_R_lay 38 = .ok (.iload 4, 2) := by decide +kernel
theorem d_R_lay_40 : decode c_R_lay 40 = .ok (.iastore, 1) := by decide +kernel
theorem d_R_lay_41 : decode c_R_lay 41 = .ok (.iconst (0), 1) := by decide +kernel
theorem d_R_lay_42 : decode c_R_lay 42 = .ok (.istore 5, 2) := by decide +kernel
theorem d_R_lay_44 : decode c_R_lay 44 = .ok (.iload 5, 2) := by decide +kernel
theorem d_R_lay_46 : decode c_R_lay 46 = .ok (.iconst (4), 1) := by decide +kernel
theorem d_R_lay_47 : decode c_R_lay 47 = .ok (.if_icmp .ge (28), 3) := by decide +kernel
theorem d_R_lay_50 : decode c_R_lay 50 = .ok (.aload_n 0, 1) := by decide +kernel
theorem d_R_lay_51 : decode c_R_lay 51 = .ok (.getfield 20, 3) := by decide +kernel
theorem d_R_lay_54 : decode c_R_lay 54 = .ok (.iconst (4), 1) := by decide +kernel
theorem d_R_lay_55 : decode c_R_lay 55 = .ok (.iload 4, 2) := by decide +kernel
theorem d_R_lay_57 : decode c_R_lay 57 = .ok (.imul, 1) := by decide +kernel
theorem d_R_lay_58 : decode c_R_lay 58 = .ok (.iload 5, 2) := by decide +kernel
theorem d_R_lay_60 : decode c_R_lay 60 = .ok (.iadd, 1) := by decide +kernel
theorem d_R_lay_61 : decode c_R_lay 61 = .ok (.aload_n 0, 1) := by decide +kernel
theorem d_R_lay_62 : decode c_R_lay 62 = .ok (.iload_n 3, 1) := by decide +kernel
theorem d_R_lay_63 : decode c_R_lay 63 = .ok (.iload 5, 2) := by decide +kernel
theorem d_R_lay_65 : decode c_R_lay 65 = .ok (.invokevirtual 91, 3) := by decide +kernel
theorem d_R_lay_68 : decode c_R_lay 68 = .ok (.iastore, 1) := by decide +kernel
theorem d_R_lay_69 : decode c_R_lay 69 = .ok (.iinc 5 (1), 3) := by decide +kernel
theorem d_R_lay_72 : decode c_R_lay 72 = .ok (.goto (-28), 3) := by decide +kernel
theorem d_R_lay_75 : decode c_R_lay 75 = .ok (.iconst (1), 1) := by decide +kernel
theorem d_R_lay_76 : decode c_R_lay 76 = .ok (.ireturn, 1) := by decide +kernel
theorem d_R_clear_0 : decode c_R_clear 0 = .ok (.iconst (0), 1) := by decide +kernel
theorem d_R_clear_1 : decode c_R_clear 1 = .ok (.istore_n 2, 1) := by decide +kernel
theorem d_R_clear_2 : decode c_R_clear 2 = .ok (.bipush (56), 2) := by decide +kernel
theorem d_R_clear_4 : decode c_R_clear 4 = .ok (.iload_n 1, 1) := by decide +kernel
theorem d_R_clear_5 : decode c_R_clear 5 = .ok (.imul, 1) := by decide +kernel
theorem d_R_clear_6 : decode c_R_clear 6 = .ok (.istore_n 3, 1) := by decide +kernel
theorem d_R_clear_7 : decode c_R_clear 7 = .ok (.iload_n 3, 1) := by decide +kernel
theorem d_R_clear_8 : decode c_R_clear 8 = .ok (.bipush (56), 2) := by decide +kernel
theorem d_R_clear_10 : decode c_R_clear 10 = .ok (.iload_n 1, 1) := by decide +kernel
theorem d_R_clear_11 : decode c_R_clear 11 = .ok (.imul, 1) := by decide +kernel
theorem d_R_clear_12 : decode c_R_clear 12 = .ok (.bipush (56), 2) := by decide +kernel
theorem d_R_clear_14 : decode c_R_clear 14 = .ok (.iadd, 1) := by decide +kernel
theorem d_R_clear_15 : decode c_R_clear 15 = .ok (.if_icmp .ge (40), 3) := by decide +kernel
theorem d_R_clear_18 : decode c_R_clear 18 = .ok (.aload_n 0, 1) := by decide +kernel
theorem d_R_clear_19 : decode c_R_clear 19 = .ok (.getfield 26, 3) := by decide +kernel
theorem d_R_clear_22 : decode c_R_clear 22 = .ok (.iload_n 3, 1) := by decide +kernel
theorem d_R_clear_23 : decode c_R_clear 23 = .ok (.iaload, 1) := by decide +kernel
theorem d_R_clear_24 : decode c_R_clear 24 = .ok (.ifCond .lt (18), 3) := by decide +kernel
theorem d_R_clear_27 : decode c_R_clear 27 = .ok (.aload_n 0, 1) := by decide +kernel
theorem d_R_clear_28 : decode c_R_clear 28 = .ok (.getfield 17, 3) := by decide +kernel
theorem d_R_clear_31 : decode c_R_clear 31 = .ok (.aload_n 0, 1) := by decide +kernel
theorem d_R_clear_32 : decode c_R_clear 32 = .ok (.getfield 26, 3) := by decide +kernel
theorem d_R_clear_35 : decode c_R_clear 35 = .ok (.iload_n 3, 1) := by decide +kernel
theorem d_R_clear_36 : decode c_R_clear 36 = .ok (.iaload, 1) := by decide +kernel
theorem d_R_clear_37 : decode c_R_clear 37 = .ok (.iconst (0), 1) := by decide +kernel
theorem d_R_clear_38 : decode c_R_clear 38 = .ok (.bastore, 1) := by decide +kernel
theorem d_R_clear_39 : decode c_R_clear 39 = .ok (.iinc 2 (1), 3) := by decide +kernel
theorem d_R_clear_42 : decode c_R_clear 42 = .ok (.aload_n 0, 1) := by decide +kernel
theorem d_R_clear_43 : decode c_R_clear 43 = .ok (.getfield 26, 3) := by decide +kernel
theorem d_R_clear_46 : decode c_R_clear 46 = .ok (.iload_n 3, 1) := by decide +kernel
theorem d_R_clear_47 : decode c_R_clear 47 = .ok (.iconst (-1), 1) := by decide +kernel
theorem d_R_clear_48 : decode c_R_clear 48 = .ok (.iastore, 1) := by decide +kernel
theorem d_R_clear_49 : decode c_R_clear 49 = .ok (.iinc 3 (1), 3) := by decide +kernel
theorem d_R_clear_52 : decode c_R_clear 52 = .ok (.goto (-45), 3) := by decide +kernel
theorem d_R_clear_55 : decode c_R_clear 55 = .ok (.aload_n 0, 1) := by decide +kernel
theorem d_R_clear_56 : decode c_R_clear 56 = .ok (.getfield 23, 3) := by decide +kernel
theorem d_R_clear_59 : decode c_R_clear 59 = .ok (.iload_n 1, 1) := by decide +kernel
theorem d_R_clear_60 : decode c_R_clear 60 = .ok (.iconst (0), 1) := by decide +kernel
theorem d_R_clear_61 : decode c_R_clear 61 = .ok (.iastore, 1) := by decide +kernel
theorem d_R_clear_62 : decode c_R_clear 62 = .ok (.iload_n 2, 1) := by decide +kernel
theorem d_R_clear_63 : decode c_R_clear 63 = .ok (.ireturn, 1) := by decide +kernel
end
section
/-! decode rows -/
theorem d_R_isObject_0 : decode c_R_isObject 0 = .ok (.iload_n 0, 1) := by decide +kernel
theorem d_R_isObject_1 : decode c_R_isObject 1 = .ok (.ifCond .lt (13), 3) := by decide +kernel
theorem d_R_isObject_4 : decode c_R_isObject 4 = .ok (.iload_n 0, 1) := by decide +kernel
theorem d_R_isObject_5 : decode c_R_isObject 5 = .ok (.bipush (6), 2) := by decide +kernel
theorem d_R_isObject_7 : decode c_R_isObject 7 = .ok (.if_icmp .ge (7), 3) := by decide +kernel
theorem d_R_isObject_10 : decode c_R_isObject 10 = .ok (.iconst (1), 1) := by decide +kernel
theorem d_R_isObject_11 : decode c_R_isObject 11 = .ok (.goto (4), 3) := by decide +kernel
theorem d_R_isObject_14 : decode c_R_isObject 14 = .ok (.iconst (0), 1) := by decide +kernel
theorem d_R_isObject_15 : decode c_R_isObject 15 = .ok (.ireturn, 1) := by decide +kernel
theorem d_R_store_0 : decode c_R_store 0 = .ok (.aload_n 0, 1) := by decide +kernel
theorem d_R_store_1 : decode c_R_store 1 = .ok (.iload_n 1, 1) := by decide +kernel
theorem d_R_store_2 : decode c_R_store 2 = .ok (.invokestatic 94, 3) := by decide +kernel
theorem d_R_store_5 : decode c_R_store 5 = .ok (.ifCond .eq (19), 3) := by decide +kernel
theorem d_R_store_8 : decode c_R_store 8 = .ok (.aload_n 0, 1) := by decide +kernel
theorem d_R_store_9 : decode c_R_store 9 = .ok (.getfield 23, 3) := by decide +kernel
theorem d_R_store_12 : decode c_R_store 12 = .ok (.iload_n 1, 1) := by decide +kernel
theorem d_R_store_13 : decode c_R_store 13 = .ok (.iaload, 1) := by decide +kernel
theorem d_R_store_14 : decode c_R_store 14 = .ok (.ifCond .gt (10), 3) := by decide +kernel
theorem d_R_store_17 : decode c_R_store 17 = .ok (.aload_n 0, 1) := by decide +kernel
theorem d_R_store_18 : decode c_R_store 18 = .ok (.getfield 62, 3) := by decide +kernel
theorem d_R_store_21 : decode c_R_store 21 = .ok (.ifCond .ne (7), 3) := by decide +kernel
theorem d_R_store_24 : decode c_R_store 24 = .ok (.iconst (1), 1) := by decide +kernel
theorem d_R_store_25 : decode c_R_store 25 = .ok (.goto (4), 3) := by decide +kernel
theorem d_R_store_28 : decode c_R_store 28 = .ok (.iconst (0), 1) := by decide +kernel
theorem d_R_store_29 : decode c_R_store 29 = .ok (.putfield 59, 3) := by decide +kernel
theorem d_R_store_32 : decode c_R_store 32 = .ok (.aload_n 0, 1) := by decide +kernel
theorem d_R_store_33 : decode c_R_store 33 = .ok (.getfield 59, 3) := by decide +kernel
theorem d_R_store_36 : decode c_R_store 36 = .ok (.ifCond .le (5), 3) := by decide +kernel
theorem d_R_store_39 : decode c_R_store 39 = .ok (.iconst (0), 1) := by decide +kernel
theorem d_R_store_40 : decode c_R_store 40 = .ok (.ireturn, 1) := by decide +kernel
theorem d_R_store_41 : decode c_R_store 41 = .ok (.aload_n 0, 1) := by decide +kernel
theorem d_R_store_42 : decode c_R_store 42 = .ok (.iload_n 1, 1) := by decide +kernel
theorem d_R_store_43 : decode c_R_store 43 = .ok (.invokevirtual 98, 3) := by decide +kernel
theorem d_R_store_46 : decode c_R_store 46 = .ok (.pop, 1) := by decide +kernel
theorem d_R_store_47 : decode c_R_store 47 = .ok (.aload_n 0, 1) := by decide +kernel
theorem d_R_store_48 : decode c_R_store 48 = .ok (.getfield 23, 3) := by decide +kernel
theorem d_R_store_51 : decode c_R_store 51 = .ok (.iload_n 1, 1) := by decide +kernel
theorem d_R_store_52 : decode c_R_store 52 = .ok (.aload_n 0, 1) := by decide +kernel
theorem d_R_store_53 : decode c_R_store 53 = .ok (.getfield 62, 3) := by decide +kernel
theorem d_R_store_56 : decode c_R_store 56 = .ok (.iastore, 1) := by decide +kernel
theorem d_R_store_57 : decode c_R_store 57 = .ok (.aload_n 0, 1) := by decide +kernel
theorem d_R_store_58 : decode c_R_store 58 = .ok (.iload_n 1, 1) := by decide +kernel
theorem d_R_store_59 : decode c_R_store 59 = .ok (.invokevirtual 101, 3) := by decide +kernel
theorem d_R_store_62 : decode c_R_store 62 = .ok (.istore_n 2, 1) := by decide +kernel
theorem d_R_store_63 : decode c_R_store 63 = .ok (.iconst (1), 1) := by decide +kernel
theorem d_R_store_64 : decode c_R_store 64 = .ok (.istore_n 3, 1) := by decide +kernel
theorem d_R_store_65 : decode c_R_store 65 = .ok (.iconst (0), 1) := by decide +kernel
theorem d_R_store_66 : decode c_R_store 66 = .ok (.istore 4, 2) := by decide +kernel
theorem d_R_store_68 : decode c_R_store 68 = .ok (.iload 4, 2) := by decide +kernel
theorem d_R_store_70 : decode c_R_store 70 = .ok (.iload_n 2, 1) := by decide +kernel
theorem d_R_store_71 : decode c_R_store 71 = .ok (.if_icmp .ge (110), 3) := by decide +kernel
theorem d_R_store_74 : decode c_R_store 74 = .ok (.iconst (0), 1) := by decide +kernel
theorem d_R_store_75 : decode c_R_store 75 = .ok (.istore 5, 2) := by decide +kernel
theorem d_R_store_77 : decode c_R_store 77 = .ok (.iload 5, 2) := by decide +kernel
theorem d_R_store_79 : decode c_R_store 79 = .ok (.iconst (4), 1) := by decide +kernel
theorem d_R_store_80 : decode c_R_store 80 = .ok (.aload_n 0, 1) := by decide +kernel
theorem d_R_store_81 : decode c_R_store 81 = .ok (.getfield 44, 3) := by decide +kernel
theorem d_R_store_84 : decode c_R_store 84 = .ok (.imul, 1) := by decide +kernel
theorem d_R_store_85 : decode c_R_store 85 = .ok (.if_icmp .ge (50), 3) := by decide +kernel
theorem d_R_store_88 : decode c_R_store 88 = .ok (.iconst (4), 1) := by decide +kernel
theorem d_R_store_89 : decode c_R_store 89 = .ok (.aload_n 0, 1) := by decide +kernel
theorem d_R_store_90 : decode c_R_store 90 = .ok (.getfield 44, 3) := by decide +kernel
theorem d_R_store_93 : decode c_R_store 93 = .ok (.imul, 1) := by decide +kernel
theorem d_R_store_94 : decode c_R_store 94 = .ok (.iload 4, 2) := by decide +kernel
theorem d_R_store_96 : decode c_R_store 96 = .ok (.imul, 1) := by decide +kernel
theorem d_R_store_97 : decode c_R_store 97 = .ok (.iload 5, 2) := by decide +kernel
theorem d_R_store_99 : decode c_R_store 99 = .ok (.iadd, 1) := by decide +kernel
theorem d_R_store_100 : decode c_R_store 100 = .ok (.istore 6, 2) := by decide +kernel
theorem d_R_store_102 : decode c_R_store 102 = .ok (.aload_n 0, 1) := by decide +kernel
theorem d_R_store_103 : decode c_R_store 103 = .ok (.getfield 38, 3) := by decide +kernel
theorem d_R_store_106 : decode c_R_store 106 = .ok (.iload 5, 2) := by decide +kernel
theorem d_R_store_108 : decode c_R_store 108 = .ok (.iload 6, 2) := by decide +kernel
theorem d_R_store_110 : decode c_R_store 110 = .ok (.aload_n 0, 1) := by decide +kernel
theorem d_R_store_111 : decode c_R_store 111 = .ok (.getfield 62, 3) := by decide +kernel
theorem d_R_store_114 : decode c_R_store 114 = .ok (.if_icmp .ge (13), 3) := by decide +kernel
theorem d_R_store_117 : decode c_R_store 117 = .ok (.aload_n 0, 1) := by decide +kernel
theorem d_R_store_118 : decode c_R_store 118 = .ok (.getfield 7, 3) := by decide +kernel
theorem d_R_store_121 : decode c_R_store 121 = .ok (.iload 6, 2) := by decide +kernel
theorem d_R_store_123 : decode c_R_store 123 = .ok (.iaload, 1) := by decide +kernel
theorem d_R_store_124 : decode c_R_store 124 = .ok (.goto (4), 3) := by decide +kernel
theorem d_R_store_127 : decode c_R_store 127 = .ok (.iconst (0), 1) := by decide +kernel
theorem d_R_store_128 : decode c_R_store 128 = .ok (.iastore, 1) := by decide +kernel
theorem d_R_store_129 : decode c_R_store 129 = .ok (.iinc 5 (1), 3) := by decide +kernel
theorem d_R_store_132 : decode c_R_store 132 = .ok (.goto (-55), 3) := by decide +kernel
theorem d_R_store_135 : decode c_R_store 135 = .ok (.iconst (0), 1) := by decide +kernel
theorem d_R_store_136 : decode c_R_store 136 = .ok (.istore 5, 2) := by decide +kernel
theorem d_R_store_138 : decode c_R_store 138 = .ok (.iload 5, 2) := by decide +kernel
theorem d_R_store_140 : decode c_R_store 140 = .ok (.aload_n 0, 1) := by decide +kernel
theorem d_R_store_141 : decode c_R_store 141 = .ok (.invokevirtual 51, 3) := by decide +kernel
theorem d_R_store_144 : decode c_R_store 144 = .ok (.if_icmp .ge (31), 3) := by decide +kernel
theorem d_R_store_147 : decode c_R_store 147 = .ok (.iload_n 3, 1) := by decide +kernel
theorem d_R_store_148 : decode c_R_store 148 = .ok (.ifCond .eq (19), 3) := by decide +kernel
theorem d_R_store_151 : decode c_R_store 151 = .ok (.aload_n 0, 1) := by decide +kernel
theorem d_R_store_152 : decode c_R_store 152 = .ok (.iload_n 1, 1) := by decide +kernel
theorem d_R_store_153 : decode c_R_store 153 = .ok (.iload 4, 2) := by decide +kernel
theorem d_R_store_155 : decode c_R_store 155 = .ok (.iload 5, 2) := by decide +kernel
theorem d_R_store_157 : decode c_R_store 157 = .ok (.invokevirtual 104, 3) := by decide +kernel
theorem d_R_store_160 : decode c_R_store 160 = .ok (.ifCond .eq (7), 3) := by decide +kernel
theorem d_R_store_163 : decode c_R_store 163 = .ok (.iconst (1), 1) := by decide +kernel
theorem d_R_store_164 : decode c_R_store 164 = .ok (.goto (4), 3) := by decide +kernel
theorem d_R_store_167 : decode c_R_store 167 = .ok (.iconst (0), 1) := by decide +kernel
theorem d_R_store_168 : decode c_R_store 168 = .ok (.istore_n 3, 1) := by decide +kernel
theorem d_R_store_169 : decode c_R_store 169 = .ok (.iinc 5 (1), 3) := by decide +kernel
theorem d_R_store_172 : decode c_R_store 172 = .ok (.goto (-34), 3) := by decide +kernel
theorem d_R_store_175 : decode c_R_store 175 = .ok (.iinc 4 (1), 3) := by decide +kernel
theorem d_R_store_178 : decode c_R_store 178 = .ok (.goto (-110), 3) := by decide +kernel
theorem d_R_store_181 : decode c_R_store 181 = .ok (.iload_n 3, 1) := by decide +kernel
theorem d_R_store_182 : decode c_R_store 182 = .ok (.ifCond .ne (16), 3) := by decide +kernel
theorem d_R_store_185 : decode c_R_store 185 = .ok (.aload_n 0, 1) := by decide +kernel
theorem d_R_store_186 : decode c_R_store 186 = .ok (.iconst (2), 1) := by decide +kernel
theorem d_R_store_187 : decode c_R_store 187 = .ok (.putfield 59, 3) := by decide +kernel
theorem d_R_store_190 : decode c_R_store 190 = .ok (.aload_n 0, 1) := by decide +kernel
theorem d_R_store_191 : decode c_R_store 191 = .ok (.iload_n 1, 1) := by decide +kernel
theorem d_R_store_192 : decode c_R_store 192 = .ok (.invokevirtual 98, 3) := by decide +kernel
theorem d_R_store_195 : decode c_R_store 195 = .ok (.pop, 1) := by decide +kernel
theorem d_R_store_196 : decode c_R_store 196 = .ok (.iconst (0), 1) := by decide +kernel
theorem d_R_store_197 : decode c_R_store 197 = .ok (.ireturn, 1) := by decide +kernel
theorem d_R_store_198 : decode c_R_store 198 = .ok (.aload_n 0, 1) := by decide +kernel
theorem d_R_store_199 : decode c_R_store 199 = .ok (.iconst (0), 1) := by decide +kernel
theorem d_R_store_200 : decode c_R_store 200 = .ok (.putfield 62, 3) := by decide +kernel
theorem d_R_store_203 : decode c_R_store 203 = .ok (.iload_n 2, 1) := by decide +kernel
theorem d_R_store_204 : decode c_R_store 204 = .ok (.ireturn, 1) := by decide +kernel
theorem d_R_isThere_0 : decode c_R_isThere 0 = .ok (.iload_n 1, 1) := by decide +kernel
theorem d_R_isThere_1 : decode c_R_isThere 1 = .ok (.invokestatic 94, 3) := by decide +kernel
theorem d_R_isThere_4 : decode c_R_isThere 4 = .ok (.ifCond .eq (16), 3) := by decide +kernel
theorem d_R_isThere_7 : decode c_R_isThere 7 = .ok (.aload_n 0, 1) := by decide +kernel
theorem d_R_isThere_8 : decode c_R_isThere 8 = .ok (.getfield 23, 3) := by decide +kernel
theorem d_R_isThere_11 : decode c_R_isThere 11 = .ok (.iload_n 1, 1) := by decide +kernel
theorem d_R_isThere_12 : decode c_R_isThere 12 = .ok (.iaload, 1) := by decide +kernel
theorem d_R_isThere_13 : decode c_R_isThere 13 = .ok (.ifCond .le (7), 3) := by decide +kernel
theorem d_R_isThere_16 : decode c_R_isThere 16 = .ok (.iconst (1), 1) := by decide +kernel
theorem d_R_isThere_17 : decode c_R_isThere 17 = .ok (.goto (4), 3) := by decide +kernel
theorem d_R_isThere_20 : decode c_R_isThere 20 = .ok (.iconst (0), 1) := by decide +kernel
theorem d_R_isThere_21 : decode c_R_isThere 21 = .ok (.ireturn, 1) := by decide +kernel
theorem d_R_drop_0 : decode c_R_drop 0 = .ok (.aload_n 0, 1) := by decide +kernel
theorem d_R_drop_1 : decode c_R_drop 1 = .ok (.aload_n 0, 1) := by decide +kernel
theorem d_R_drop_2 : decode c_R_drop 2 = .ok (.iload_n 1, 1) := by decide +kernel
theorem d_R_drop_3 : decode c_R_drop 3 = .ok (.invokevirtual 108, 3) := by decide +kernel
theorem d_R_drop_6 : decode c_R_drop 6 = .ok (.ifCond .eq (7), 3) := by decide +kernel
theorem d_R_drop_9 : decode c_R_drop 9 = .ok (.iconst (0), 1) := by decide +kernel
theorem d_R_drop_10 : decode c_R_drop 10 = .ok (.goto (4), 3) := by decide +kernel
theorem d_R_drop_13 : decode c_R_drop 13 = .ok (.iconst (1), 1) := by decide +kernel
theorem d_R_drop_14 : decode c_R_drop 14 = .ok (.putfield 59, 3) := by decide +kernel
theorem d_R_drop_17 : decode c_R_drop 17 = .ok (.aload_n 0, 1) := by decide +kernel
theorem d_R_drop_18 : decode c_R_drop 18 = .ok (.getfield 59, 3) := by decide +kernel
theorem d_R_drop_21 : decode c_R_drop 21 = .ok (.ifCond .le (7), 3) := by decide +kernel
theorem d_R_drop_24 : decode c_R_drop 24 = .ok (.iconst (0), 1) := by decide +kernel
theorem d_R_drop_25 : decode c_R_drop 25 = .ok (.goto (8), 3) := by decide +kernel
theorem d_R_drop_28 : decode c_R_drop 28 = .ok (.aload_n 0, 1) := by decide +kernel
theorem d_R_drop_29 : decode c_R_drop 29 = .ok (.iload_n 1, 1) := by decide +kernel
theorem d_R_drop_30 : decode c_R_drop 30 = .ok (.invokevirtual 98, 3) := by decide +kernel
theorem d_R_drop_33 : decode c_R_drop 33 = .ok (.ireturn, 1) := by decide +kernel
theorem d_R_get_0 : decode c_R_get 0 = .ok (.aload_n 0, 1) := by decide +kernel
theorem d_R_get_1 : decode c_R_get 1 = .ok (.aload_n 0, 1) := by decide +kernel
theorem d_R_get_2 : decode c_R_get 2 = .ok (.iload_n 1, 1) := by decide +kernel
theorem d_R_get_3 : decode c_R_get 3 = .ok (.invokevirtual 108, 3) := by decide +kernel
theorem d_R_get_6 : decode c_R_get 6 = .ok (.ifCond .eq (7), 3) := by decide +kernel
theorem d_R_get_9 : decode c_R_get 9 = .ok (.iconst (0), 1) := by decide +kernel
theorem d_R_get_10 : decode c_R_get 10 = .ok (.goto (4), 3) := by decide +kernel
theorem d_R_get_13 : decode c_R_get 13 = .ok (.iconst (1), 1) := by decide +kernel
theorem d_R_get_14 : decode c_R_get 14 = .ok (.putfield 59, 3) := by decide +kernel
theorem d_R_get_17 : decode c_R_get 17 = .ok (.aload_n 0, 1) := by decide +kernel
theorem d_R_get_18 : decode c_R_get 18 = .ok (.getfield 59, 3) := by decide +kernel
theorem d_R_get_21 : decode c_R_get 21 = .ok (.ifCond .le (5), 3) := by decide +kernel
theorem d_R_get_24 : decode c_R_get 24 = .ok (.iconst (0), 1) := by decide +kernel
theorem d_R_get_25 : decode c_R_get 25 = .ok (.ireturn, 1) := by decide +kernel
theorem d_R_get_26 : decode c_R_get 26 = .ok (.aload_n 0, 1) := by decide +kernel
theorem d_R_get_27 : decode c_R_get 27 = .ok (.getfield 23, 3) := by decide +kernel
theorem d_R_get_30 : decode c_R_get 30 = .ok (.iload_n 1, 1) := by decide +kernel
theorem d_R_get_31 : decode c_R_get 31 = .ok (.iaload, 1) := by decide +kernel
theorem d_R_get_32 : decode c_R_get 32 = .ok (.istore_n 2, 1) := by decide +kernel
theorem d_R_get_33 : decode c_R_get 33 = .ok (.iconst (0), 1) := by decide +kernel
theorem d_R_get_34 : decode c_R_get 34 = .ok (.istore_n 3, 1) := by decide +kernel
theorem d_R_get_35 : decode c_R_get 35 = .ok (.iload_n 3, 1) := by decide +kernel
theorem d_R_get_36 : decode c_R_get 36 = .ok (.aload_n 0, 1) := by decide +kernel
theorem d_R_get_37 : decode c_R_get 37 = .ok (.iload_n 1, 1) := by decide +kernel
theorem d_R_get_38 : decode c_R_get 38 = .ok (.invokevirtual 101, 3) := by decide +kernel
theorem d_R_get_41 : decode c_R_get 41 = .ok (.if_icmp .ge (93), 3) := by decide +kernel
theorem d_R_get_44 : decode c_R_get 44 = .ok (.aload_n 0, 1) := by decide +kernel
theorem d_R_get_45 : decode c_R_get 45 = .ok (.iload_n 1, 1) := by decide +kernel
theorem d_R_get_46 : decode c_R_get 46 = .ok (.iload_n 3, 1) := by decide +kernel
theorem d_R_get_47 : decode c_R_get 47 = .ok (.invokevirtual 111, 3) := by decide +kernel
theorem d_R_get_50 : decode c_R_get 50 = .ok (.aload_n 0, 1) := by decide +kernel
theorem d_R_get_51 : decode c_R_get 51 = .ok (.getfield 48, 3) := by decide +kernel
theorem d_R_get_54 : decode c_R_get 54 = .ok (.if_icmp .le (10), 3) := by decide +kernel
theorem d_R_get_57 : decode c_R_get 57 = .ok (.aload_n 0, 1) := by decide +kernel
theorem d_R_get_58 : decode c_R_get 58 = .ok (.iconst (2), 1) := by decide +kernel
theorem d_R_get_59 : decode c_R_get 59 = .ok (.putfield 59, 3) := by decide +kernel
theorem d_R_get_62 : decode c_R_get 62 = .ok (.iconst (0), 1) := by decide +kernel
theorem d_R_get_63 : decode c_R_get 63 = .ok (.ireturn, 1) := by decide +kernel
theorem d_R_get_64 : decode c_R_get 64 = .ok (.aload_n 0, 1) := by decide +kernel
theorem d_R_get_65 : decode c_R_get 65 = .ok (.iload_n 1, 1) := by decide +kernel
theorem d_R_get_66 : decode c_R_get 66 = .ok (.iload_n 3, 1) := by decide +kernel
theorem d_R_get_67 : decode c_R_get 67 = .ok (.invokevirtual 114, 3) := by decide +kernel
theorem d_R_get_70 : decode c_R_get 70 = .ok (.iconst (0), 1) := by decide +kernel
theorem d_R_get_71 : decode c_R_get 71 = .ok (.istore 4, 2) := by decide +kernel
theorem d_R_get_73 : decode c_R_get 73 = .ok (.iload 4, 2) := by decide +kernel
theorem d_R_get_75 : decode c_R_get 75 = .ok (.iconst (4), 1) := by decide +kernel
theorem d_R_get_76 : decode c_R_get 76 = .ok (.aload_n 0, 1) := by decide +kernel
theorem d_R_get_77 : decode c_R_get 77 = .ok (.getfield 44, 3) := by decide +kernel
theorem d_R_get_80 : decode c_R_get 80 = .ok (.imul, 1) := by decide +kernel
theorem d_R_get_81 : decode c_R_get 81 = .ok (.if_icmp .ge (47), 3) := by decide +kernel
theorem d_R_get_84 : decode c_R_get 84 = .ok (.iconst (4), 1) := by decide +kernel
theorem d_R_get_85 : decode c_R_get 85 = .ok (.aload_n 0, 1) := by decide +kernel
theorem d_R_get_86 : decode c_R_get 86 = .ok (.getfield 44, 3) := by decide +kernel
theorem d_R_get_89 : decode c_R_get 89 = .ok (.imul, 1) := by decide +kernel
theorem d_R_get_90 : decode c_R_get 90 = .ok (.iload_n 3, 1) := by decide +kernel
theorem d_R_get_91 : decode c_R_get 91 = .ok (.imul, 1) := by decide +kernel
theorem d_R_get_92 : decode c_R_get 92 = .ok (.iload 4, 2) := by decide +kernel
theorem d_R_get_94 : decode c_R_get 94 = .ok (.iadd, 1) := by decide +kernel
theorem d_R_get_95 : decode c_R_get 95 = .ok (.iload_n 2, 1) := by decide +kernel
theorem d_R_get_96 : decode c_R_get 96 = .ok (.if_icmp .ge (32), 3) := by decide +kernel
theorem d_R_get_99 : decode c_R_get 99 = .ok (.aload_n 0, 1) := by decide +kernel
theorem d_R_get_100 : decode c_R_get 100 = .ok (.getfield 35, 3) := by decide +kernel
theorem d_R_get_103 : decode c_R_get 103 = .ok (.iconst (4), 1) := by decide +kernel
theorem d_R_get_104 : decode c_R_get 104 = .ok (.aload_n 0, 1) := by decide +kernel
theorem d_R_get_105 : decode c_R_get 105 = .ok (.getfield 44, 3) := by decide +kernel
theorem d_R_get_108 : decode c_R_get 108 = .ok (.imul, 1) := by decide +kernel
theorem d_R_get_109 : decode c_R_get 109 = .ok (.iload_n 3, 1) := by decide +kernel
theorem d_R_get_110 : decode c_R_get 110 = .ok (.imul, 1) := by decide +kernel
theorem d_R_get_111 : decode c_R_get 111 = .ok (.iload 4, 2) := by decide +kernel
theorem d_R_get_113 : decode c_R_get 113 = .ok (.iadd, 1) := by decide +kernel
theorem d_R_get_114 : decode c_R_get 114 = .ok (.aload_n 0, 1) := by decide +kernel
theorem d_R_get_115 : decode c_R_get 115 = .ok (.getfield 38, 3) := by decide +kernel
theorem d_R_get_118 : decode c_R_get 118 = .ok (.iload 4, 2) := by decide +kernel
theorem d_R_get_120 : decode c_R_get 120 = .ok (.iaload, 1) := by decide +kernel
theorem d_R_get_121 : decode c_R_get 121 = .ok (.iastore, 1) := by decide +kernel
theorem d_R_get_122 : decode c_R_get 122 = .ok (.iinc 4 (1), 3) := by decide +kernel
theorem d_R_get_125 : decode c_R_get 125 = .ok (.goto (-52), 3) := by decide +kernel
theorem d_R_get_128 : decode c_R_get 128 = .ok (.iinc 3 (1), 3) := by decide +kernel
theorem d_R_get_131 : decode c_R_get 131 = .ok (.goto (-96), 3) := by decide +kernel
theorem d_R_get_134 : decode c_R_get 134 = .ok (.aload_n 0, 1) := by decide +kernel
theorem d_R_get_135 : decode c_R_get 135 = .ok (.iload_n 2, 1) := by decide +kernel
theorem d_R_get_136 : decode c_R_get 136 = .ok (.putfield 118, 3) := by decide +kernel
theorem d_R_get_139 : decode c_R_get 139 = .ok (.iconst (0), 1) := by decide +kernel
theorem d_R_get_140 : decode c_R_get 140 = .ok (.istore_n 3, 1) := by decide +kernel
theorem d_R_get_141 : decode c_R_get 141 = .ok (.iload_n 3, 1) := by decide +kernel
theorem d_R_get_142 : decode c_R_get 142 = .ok (.iload_n 2, 1) := by decide +kernel
theorem d_R_get_143 : decode c_R_get 143 = .ok (.if_icmp .ge (21), 3) := by decide +kernel
theorem d_R_get_146 : decode c_R_get 146 = .ok (.aload_n 0, 1) := by decide +kernel
theorem d_R_get_147 : decode c_R_get 147 = .ok (.getfield 32, 3) := by decide +kernel
theorem d_R_get_150 : decode c_R_get 150 = .ok (.iload_n 3, 1) := by decide +kernel
theorem d_R_get_151 : decode c_R_get 151 = .ok (.aload_n 0, 1) := by decide +kernel
theorem d_R_get_152 : decode c_R_get 152 = .ok (.getfield 35, 3) := by decide +kernel
theorem d_R_get_155 : decode c_R_get 155 = .ok (.iload_n 3, 1) := by decide +kernel
theorem d_R_get_156 : decode c_R_get 156 = .ok (.iaload, 1) := by decide +kernel
theorem d_R_get_157 : decode c_R_get 157 = .ok (.iastore, 1) := by decide +kernel
theorem d_R_get_158 : decode c_R_get 158 = .ok (.iinc 3 (1), 3) := by decide +kernel
theorem d_R_get_161 : decode c_R_get 161 = .ok (.goto (-20), 3) := by decide +kernel
theorem d_R_get_164 : decode c_R_get 164 = .ok (.iload_n 2, 1) := by decide +kernel
theorem d_R_get_165 : decode c_R_get 165 = .ok (.ireturn, 1) := by decide +kernel
theorem d_R_at_0 : decode c_R_at 0 = .ok (.aload_n 0, 1) := by decide +kernel
theorem d_R_at_1 : decode c_R_at 1 = .ok (.iload_n 1, 1) := by decide +kernel
theorem d_R_at_2 : decode c_R_at 2 = .ok (.ifCond .lt (11), 3) := by decide +kernel
theorem d_R_at_5 : decode c_R_at 5 = .ok (.iload_n 1, 1) := by decide +kernel
theorem d_R_at_6 : decode c_R_at 6 = .ok (.aload_n 0, 1) := by decide +kernel
theorem d_R_at_7 : decode c_R_at 7 = .ok (.getfield 118, 3) := by decide +kernel
theorem d_R_at_10 : decode c_R_at 10 = .ok (.if_icmp .lt (7), 3) := by decide +kernel
theorem d_R_at_13 : decode c_R_at 13 = .ok (.iconst (1), 1) := by decide +kernel
theorem d_R_at_14 : decode c_R_at 14 = .ok (.goto (4), 3) := by decide +kernel
theorem d_R_at_17 : decode c_R_at 17 = .ok (.iconst (0), 1) := by decide +kernel
theorem d_R_at_18 : decode c_R_at 18 = .ok (.putfield 59, 3) := by decide +kernel
theorem d_R_at_21 : decode c_R_at 21 = .ok (.aload_n 0, 1) := by decide +kernel
theorem d_R_at_22 : decode c_R_at 22 = .ok (.getfield 59, 3) := by decide +kernel
theorem d_R_at_25 : decode c_R_at 25 = .ok (.ifCond .le (7), 3) := by decide +kernel
theorem d_R_at_28 : decode c_R_at 28 = .ok (.iconst (0), 1) := by decide +kernel
theorem d_R_at_29 : decode c_R_at 29 = .ok (.goto (9), 3) := by decide +kernel
theorem d_R_at_32 : decode c_R_at 32 = .ok (.aload_n 0, 1) := by decide +kernel
theorem d_R_at_33 : decode c_R_at 33 = .ok (.getfield 32, 3) := by decide +kernel
theorem d_R_at_36 : decode c_R_at 36 = .ok (.iload_n 1, 1) := by decide +kernel
theorem d_R_at_37 : decode c_R_at 37 = .ok (.iaload, 1) := by decide +kernel
theorem d_R_at_38 : decode c_R_at 38 = .ok (.ireturn, 1) := by decide +kernel
theorem d_R_isDisk_0 : decode c_R_isDisk 0 = .ok (.iload_n 0, 1) := by decide +kernel
theorem d_R_isDisk_1 : decode c_R_isDisk 1 = .ok (.ifCond .lt (13), 3) := by decide +kernel
theorem d_R_isDisk_4 : decode c_R_isDisk 4 = .ok (.iload_n 0, 1) := by decide +kernel
theorem d_R_isDisk_5 : decode c_R_isDisk 5 = .ok (.bipush (8), 2) := by decide +kernel
theorem d_R_isDisk_7 : decode c_R_isDisk 7 = .ok (.if_icmp .ge (7), 3) := by decide +kernel
theorem d_R_isDisk_10 : decode c_R_isDisk 10 = .ok (.iconst (1), 1) := by decide +kernel
theorem d_R_isDisk_11 : decode c_R_isDisk 11 = .ok (.goto (4), 3) := by decide +kernel
theorem d_R_isDisk_14 : decode c_R_isDisk 14 = .ok (.iconst (0), 1) := by decide +kernel
theorem d_R_isDisk_15 : decode c_R_isDisk 15 = .ok (.ireturn, 1) := by decide +kernel
theorem d_R_fail_0 : decode c_R_fail 0 = .ok (.aload_n 0, 1) := by decide +kernel
theorem d_R_fail_1 : decode c_R_fail 1 = .ok (.iload_n 1, 1) := by decide +kernel
theorem d_R_fail_2 : decode c_R_fail 2 = .ok (.invokestatic 121, 3) := by decide +kernel
theorem d_R_fail_5 : decode c_R_fail 5 = .ok (.ifCond .ne (7), 3) := by decide +kernel
theorem d_R_fail_8 : decode c_R_fail 8 = .ok (.iconst (1), 1) := by decide +kernel
theorem d_R_fail_9 : decode c_R_fail 9 = .ok (.goto (17), 3) := by decide +kernel
theorem d_R_fail_12 : decode c_R_fail 12 = .ok (.aload_n 0, 1) := by decide +kernel
theorem d_R_fail_13 : decode c_R_fail 13 = .ok (.getfield 13, 3) := by decide +kernel
theorem d_R_fail_16 : decode c_R_fail 16 = .ok (.iload_n 1, 1) := by decide +kernel
theorem d_R_fail_17 : decode c_R_fail 17 = .ok (.baload, 1) := by decide +kernel
theorem d_R_fail_18 : decode c_R_fail 18 = .ok (.ifCond .ne (7), 3) := by decide +kernel
theorem d_R_fail_21 : decode c_R_fail 21 = .ok (.iconst (2), 1) := by decide +kernel
theorem d_R_fail_22 : decode c_R_fail 22 = .ok (.goto (4), 3) := by decide +kernel
theorem d_R_fail_25 : decode c_R_fail 25 = .ok (.iconst (0), 1) := by decide +kernel
theorem d_R_fail_26 : decode c_R_fail 26 = .ok (.putfield 59, 3) := by decide +kernel
theorem d_R_fail_29 : decode c_R_fail 29 = .ok (.aload_n 0, 1) := by decide +kernel
theorem d_R_fail_30 : decode c_R_fail 30 = .ok (.getfield 59, 3) := by decide +kernel
theorem d_R_fail_33 : decode c_R_fail 33 = .ok (.ifCond .le (5), 3) := by decide +kernel
theorem d_R_fail_36 : decode c_R_fail 36 = .ok (.iconst (0), 1) := by decide +kernel
theorem d_R_fail_37 : decode c_R_fail 37 = .ok (.ireturn, 1) := by decide +kernel
theorem d_R_fail_38 : decode c_R_fail 38 = .ok (.iconst (0), 1) := by decide +kernel
theorem d_R_fail_39 : decode c_R_fail 39 = .ok (.istore_n 2, 1) := by decide +kernel
theorem d_R_fail_40 : decode c_R_fail 40 = .ok (.iconst (0), 1) := by decide +kernel
theorem d_R_fail_41 : decode c_R_fail 41 = .ok (.istore_n 3, 1) := by decide +kernel
theorem d_R_fail_42 : decode c_R_fail 42 = .ok (.iload_n 3, 1) := by decide +kernel
theorem d_R_fail_43 : decode c_R_fail 43 = .ok (.sipush (336), 3) := by decide +kernel
theorem d_R_fail_46 : decode c_R_fail 46 = .ok (.if_icmp .ge (84), 3) := by decide +kernel
theorem d_R_fail_49 : decode c_R_fail 49 = .ok (.aload_n 0, 1) := by decide +kernel
theorem d_R_fail_50 : decode c_R_fail 50 = .ok (.getfield 23, 3) := by decide +kernel
theorem d_R_fail_53 : decode c_R_fail 53 = .ok (.iload_n 3, 1) := by decide +kernel
theorem d_R_fail_54 : decode c_R_fail 54 = .ok (.bipush (56), 2) := by decide +kernel
theorem d_R_fail_56 : decode c_R_fail 56 = .ok (.idiv, 1) := by decide +kernel
theorem d_R_fail_57 : decode c_R_fail 57 = .ok (.iaload, 1) := by decide +kernel
theorem d_R_fail_58 : decode c_R_fail 58 = .ok (.ifCond .le (29), 3) := by decide +kernel
theorem d_R_fail_61 : decode c_R_fail 61 = .ok (.aload_n 0, 1) := by decide +kernel
theorem d_R_fail_62 : decode c_R_fail 62 = .ok (.getfield 26, 3) := by decide +kernel
theorem d_R_fail_65 : decode c_R_fail 65 = .ok (.iload_n 3, 1) := by decide +kernel
theorem d_R_fail_66 : decode c_R_fail 66 = .ok (.iaload, 1) := by decide +kernel
theorem d_R_fail_67 : decode c_R_fail 67 = .ok (.ifCond .lt (20), 3) := by decide +kernel
theorem d_R_fail_70 : decode c_R_fail 70 = .ok (.aload_n 0, 1) := by decide +kernel
theorem d_R_fail_71 : decode c_R_fail 71 = .ok (.getfield 26, 3) := by decide +kernel
theorem d_R_fail_74 : decode c_R_fail 74 = .ok (.iload_n 3, 1) := by decide +kernel
theorem d_R_fail_75 : decode c_R_fail 75 = .ok (.iaload, 1) := by decide +kernel
theorem d_R_fail_76 : decode c_R_fail 76 = .ok (.bipush (10), 2) := by decide +kernel
theorem d_R_fail_78 : decode c_R_fail 78 = .ok (.idiv, 1) := by decide +kernel
theorem d_R_fail_79 : decode c_R_fail 79 = .ok (.iload_n 1, 1) := by decide +kernel
theorem d_R_fail_80 : decode c_R_fail 80 = .ok (.if_icmp .ne (7), 3) := by decide +kernel
theorem d_R_fail_83 : decode c_R_fail 83 = .ok (.iconst (1), 1) := by decide +kernel
theorem d_R_fail_84 : decode c_R_fail 84 = .ok (.goto (4), 3) := by decide +kernel
theorem d_R_fail_87 : decode c_R_fail 87 = .ok (.iconst (0), 1) := by decide +kernel
theorem d_R_fail_88 : decode c_R_fail 88 = .ok (.istore 4, 2) := by decide +kernel
theorem d_R_fail_90 : decode c_R_fail 90 = .ok (.iload 4, 2) := by decide +kernel
theorem d_R_fail_92 : decode c_R_fail 92 = .ok (.ifCond .eq (9), 3) := by decide +kernel
theorem d_R_fail_95 : decode c_R_fail 95 = .ok (.iload_n 2, 1) := by decide +kernel
theorem d_R_fail_96 : decode c_R_fail 96 = .ok (.iconst (1), 1) := by decide +kernel
theorem d_R_fail_97 : decode c_R_fail 97 = .ok (.iadd, 1) := by decide +kernel
theorem d_R_fail_98 : decode c_R_fail 98 = .ok (.goto (4), 3) := by decide +kernel
theorem d_R_fail_101 : decode c_R_fail 101 = .ok (.iload_n 2, 1) := by decide +kernel
theorem d_R_fail_102 : decode c_R_fail 102 = .ok (.istore_n 2, 1) := by decide +kernel
theorem d_R_fail_103 : decode c_R_fail 103 = .ok (.aload_n 0, 1) := by decide +kernel
theorem d_R_fail_104 : decode c_R_fail 104 = .ok (.getfield 26, 3) := by decide +kernel
theorem d_R_fail_107 : decode c_R_fail 107 = .ok (.iload_n 3, 1) := by decide +kernel
theorem d_R_fail_108 : decode c_R_fail 108 = .ok (.iload 4, 2) := by decide +kernel
theorem d_R_fail_110 : decode c_R_fail 110 = .ok (.ifCond .eq (7), 3) := by decide +kernel
theorem d_R_fail_113 : decode c_R_fail 113 = .ok (.iconst (-1), 1) := by decide +kernel
theorem d_R_fail_114 : decode c_R_fail 114 = .ok (.goto (9), 3) := by decide +kernel
theorem d_R_fail_117 : decode c_R_fail 117 = .ok (.aload_n 0, 1) := by decide +kernel
theorem d_R_fail_118 : decode c_R_fail 118 = .ok (.getfield 26, 3) := by decide +kernel
theorem d_R_fail_121 : decode c_R_fail 121 = .ok (.iload_n 3, 1) := by decide +kernel
theorem d_R_fail_122 : decode c_R_fail 122 = .ok (.iaload, 1) := by decide +kernel
theorem d_R_fail_123 : decode c_R_fail 123 = .ok (.iastore, 1) := by decide +kernel
theorem d_R_fail_124 : decode c_R_fail 124 = .ok (.iinc 3 (1), 3) := by decide +kernel
theorem d_R_fail_127 : decode c_R_fail 127 = .ok (.goto (-85), 3) := by decide +kernel
theorem d_R_fail_130 : decode c_R_fail 130 = .ok (.iconst (0), 1) := by decide +kernel
theorem d_R_fail_131 : decode c_R_fail 131 = .ok (.istore_n 3, 1) := by decide +kernel
theorem d_R_fail_132 : decode c_R_fail 132 = .ok (.iload_n 3, 1) := by decide +kernel
theorem d_R_fail_133 : decode c_R_fail 133 = .ok (.bipush (10), 2) := by decide +kernel
theorem d_R_fail_135 : decode c_R_fail 135 = .ok (.if_icmp .ge (21), 3) := by decide +kernel
theorem d_R_fail_138 : decode c_R_fail 138 = .ok (.aload_n 0, 1) := by decide +kernel
theorem d_R_fail_139 : decode c_R_fail 139 = .ok (.getfield 17, 3) := by decide +kernel
theorem d_R_fail_142 : decode c_R_fail 142 = .ok (.bipush (10), 2) := by decide +kernel
theorem d_R_fail_144 : decode c_R_fail 144 = .ok (.iload_n 1, 1) := by decide +kernel
theorem d_R_fail_145 : decode c_R_fail 145 = .ok (.imul, 1) := by decide +kernel
theorem d_R_fail_146 : decode c_R_fail 146 = .ok (.iload_n 3, 1) := by decide +kernel
theorem d_R_fail_147 : decode c_R_fail 147 = .ok (.iadd, 1) := by decide +kernel
theorem d_R_fail_148 : decode c_R_fail 148 = .ok (.iconst (0), 1) := by decide +kernel
theorem d_R_fail_149 : decode c_R_fail 149 = .ok (.bastore, 1) := by decide +kernel
theorem d_R_fail_150 : decode c_R_fail 150 = .ok (.iinc 3 (1), 3) := by decide +kernel
theorem d_R_fail_153 : decode c_R_fail 153 = .ok (.goto (-21), 3) := by decide +kernel
theorem d_R_fail_156 : decode c_R_fail 156 = .ok (.aload_n 0, 1) := by decide +kernel
theorem d_R_fail_157 : decode c_R_fail 157 = .ok (.getfield 13, 3) := by decide +kernel
theorem d_R_fail_160 : decode c_R_fail 160 = .ok (.iload_n 1, 1) := by decide +kernel
theorem d_R_fail_161 : decode c_R_fail 161 = .ok (.iconst (0), 1) := by decide +kernel
theorem d_R_fail_162 : decode c_R_fail 162 = .ok (.bastore, 1) := by decide +kernel
theorem d_R_fail_163 : decode c_R_fail 163 = .ok (.iload_n 2, 1) := by decide +kernel
theorem d_R_fail_164 : decode c_R_fail 164 = .ok (.ireturn, 1) := by decide +kernel
theorem d_R_renew_0 : decode c_R_renew 0 = .ok (.aload_n 0, 1) := by decide +kernel
theorem d_R_renew_1 : decode c_R_renew 1 = .ok (.iload_n 1, 1) := by decide +kernel
theorem d_R_renew_2 : decode c_R_renew 2 = .ok (.invokestatic 121, 3) := by decide +kernel
theorem d_R_renew_5 : decode c_R_renew 5 = .ok (.ifCond .ne (7), 3) := by decide +kernel
theorem d_R_renew_8 : decode c_R_renew 8 = .ok (.iconst (1), 1) := by decide +kernel
theorem d_R_renew_9 : decode c_R_renew 9 = .ok (.goto (17), 3) := by decide +kernel
theorem d_R_renew_12 : decode c_R_renew 12 = .ok (.aload_n 0, 1) := by decide +kernel
theorem d_R_renew_13 : decode c_R_renew 13 = .ok (.getfield 13, 3) := by decide +kernel
theorem d_R_renew_16 : decode c_R_renew 16 = .ok (.iload_n 1, 1) := by decide +kernel
theorem d_R_renew_17 : decode c_R_renew 17 = .ok (.baload, 1) := by decide +kernel
theorem d_R_renew_18 : decode c_R_renew 18 = .ok (.ifCond .eq (7), 3) := by decide +kernel
theorem d_R_renew_21 : decode c_R_renew 21 = .ok (.iconst (2), 1) := by decide +kernel
theorem d_R_renew_22 : decode c_R_renew 22 = .ok (.goto (4), 3) := by decide +kernel
theorem d_R_renew_25 : decode c_R_renew 25 = .ok (.iconst (0), 1) := by decide +kernel
theorem d_R_renew_26 : decode c_R_renew 26 = .ok (.putfield 59, 3) := by decide +kernel
theorem d_R_renew_29 : decode c_R_renew 29 = .ok (.aload_n 0, 1) := by decide +kernel
theorem d_R_renew_30 : decode c_R_renew 30 = .ok (.getfield 59, 3) := by decide +kernel
theorem d_R_renew_33 : decode c_R_renew 33 = .ok (.ifCond .le (5), 3) := by decide +kernel
theorem d_R_renew_36 : decode c_R_renew 36 = .ok (.iconst (0), 1) := by decide +kernel
theorem d_R_renew_37 : decode c_R_renew 37 = .ok (.ireturn, 1) := by decide +kernel
theorem d_R_renew_38 : decode c_R_renew 38 = .ok (.aload_n 0, 1) := by decide +kernel
theorem d_R_renew_39 : decode c_R_renew 39 = .ok (.getfield 13, 3) := by decide +kernel
theorem d_R_renew_42 : decode c_R_renew 42 = .ok (.iload_n 1, 1) := by decide +kernel
theorem d_R_renew_43 : decode c_R_renew 43 = .ok (.iconst (1), 1) := by decide +kernel
theorem d_R_renew_44 : decode c_R_renew 44 = .ok (.bastore, 1) := by decide +kernel
theorem d_R_renew_45 : decode c_R_renew 45 = .ok (.iconst (0), 1) := by decide +kernel
theorem d_R_renew_46 : decode c_R_renew 46 = .ok (.istore_n 2, 1) := by decide +kernel
theorem d_R_renew_47 : decode c_R_renew 47 = .ok (.iconst (0), 1) := by decide +kernel
theorem d_R_renew_48 : decode c_R_renew 48 = .ok (.istore_n 3, 1) := by decide +kernel
theorem d_R_renew_49 : decode c_R_renew 49 = .ok (.iload_n 3, 1) := by decide +kernel
theorem d_R_renew_50 : decode c_R_renew 50 = .ok (.bipush (8), 2) := by decide +kernel
theorem d_R_renew_52 : decode c_R_renew 52 = .ok (.if_icmp .ge (26), 3) := by decide +kernel
theorem d_R_renew_55 : decode c_R_renew 55 = .ok (.aload_n 0, 1) := by decide +kernel
theorem d_R_renew_56 : decode c_R_renew 56 = .ok (.getfield 13, 3) := by decide +kernel
theorem d_R_renew_59 : decode c_R_renew 59 = .ok (.iload_n 3, 1) := by decide +kernel
theorem d_R_renew_60 : decode c_R_renew 60 = .ok (.baload, 1) := by decide +kernel
theorem d_R_renew_61 : decode c_R_renew 61 = .ok (.ifCond .eq (9), 3) := by decide +kernel
theorem d_R_renew_64 : decode c_R_renew 64 = .ok (.iload_n 2, 1) := by decide +kernel
theorem d_R_renew_65 : decode c_R_renew 65 = .ok (.iconst (1), 1) := by decide +kernel
theorem d_R_renew_66 : decode c_R_renew 66 = .ok (.iadd, 1) := by decide +kernel
theorem d_R_renew_67 : decode c_R_renew 67 = .ok (.goto (4), 3) := by decide +kernel
theorem d_R_renew_70 : decode c_R_renew 70 = .ok (.iload_n 2, 1) := by decide +kernel
theorem d_R_renew_71 : decode c_R_renew 71 = .ok (.istore_n 2, 1) := by decide +kernel
theorem d_R_renew_72 : decode c_R_renew 72 = .ok (.iinc 3 (1), 3) := by decide +kernel
theorem d_R_renew_75 : decode c_R_renew 75 = .ok (.goto (-26), 3) := by decide +kernel
theorem d_R_renew_78 : decode c_R_renew 78 = .ok (.iload_n 2, 1) := by decide +kernel
theorem d_R_renew_79 : decode c_R_renew 79 = .ok (.ireturn, 1) := by decide +kernel
theorem d_R_repair_0 : decode c_R_repair 0 = .ok (.aload_n 0, 1) := by decide +kernel
theorem d_R_repair_1 : decode c_R_repair 1 = .ok (.iconst (0), 1) := by decide +kernel
theorem d_R_repair_2 : decode c_R_repair 2 = .ok (.putfield 59, 3) := by decide +kernel
theorem d_R_repair_5 : decode c_R_repair 5 = .ok (.iconst (0), 1) := by decide +kernel
theorem d_R_repair_6 : decode c_R_repair 6 = .ok (.istore_n 1, 1) := by decide +kernel
theorem d_R_repair_7 : decode c_R_repair 7 = .ok (.iconst (0), 1) := by decide +kernel
theorem d_R_repair_8 : decode c_R_repair 8 = .ok (.istore_n 2, 1) := by decide +kernel
theorem d_R_repair_9 : decode c_R_repair 9 = .ok (.iload_n 2, 1) := by decide +kernel
theorem d_R_repair_10 : decode c_R_repair 10 = .ok (.bipush (6), 2) := by decide +kernel
theorem d_R_repair_12 : decode c_R_repair 12 = .ok (.if_icmp .ge (102), 3) := by decide +kernel
theorem d_R_repair_15 : decode c_R_repair 15 = .ok (.iconst (0), 1) := by decide +kernel
theorem d_R_repair_16 : decode c_R_repair 16 = .ok (.istore_n 3, 1) := by decide +kernel
theorem d_R_repair_17 : decode c_R_repair 17 = .ok (.iload_n 3, 1) := by decide +kernel
theorem d_R_repair_18 : decode c_R_repair 18 = .ok (.aload_n 0, 1) := by decide +kernel
theorem d_R_repair_19 : decode c_R_repair 19 = .ok (.iload_n 2, 1) := by decide +kernel
theorem d_R_repair_20 : decode c_R_repair 20 = .ok (.invokevirtual 101, 3) := by decide +kernel
theorem d_R_repair_23 : decode c_R_repair 23 = .ok (.if_icmp .ge (85), 3) := by decide +kernel
theorem d_R_repair_26 : decode c_R_repair 26 = .ok (.aload_n 0, 1) := by decide +kernel
theorem d_R_repair_27 : decode c_R_repair 27 = .ok (.iload_n 2, 1) := by decide +kernel
theorem d_R_repair_28 : decode c_R_repair 28 = .ok (.iload_n 3, 1) := by decide +kernel
theorem d_R_repair_29 : decode c_R_repair 29 = .ok (.invokevirtual 111, 3) := by decide +kernel
theorem d_R_repair_32 : decode c_R_repair 32 = .ok (.istore 4, 2) := by decide +kernel
theorem d_R_repair_34 : decode c_R_repair 34 = .ok (.iload 4, 2) := by decide +kernel
theorem d_R_repair_36 : decode c_R_repair 36 = .ok (.ifCond .le (66), 3) := by decide +kernel
theorem d_R_repair_39 : decode c_R_repair 39 = .ok (.iload 4, 2) := by decide +kernel
theorem d_R_repair_41 : decode c_R_repair 41 = .ok (.aload_n 0, 1) := by decide +kernel
theorem d_R_repair_42 : decode c_R_repair 42 = .ok (.getfield 48, 3) := by decide +kernel
theorem d_R_repair_45 : decode c_R_repair 45 = .ok (.if_icmp .gt (57), 3) := by decide +kernel
theorem d_R_repair_48 : decode c_R_repair 48 = .ok (.aload_n 0, 1) := by decide +kernel
theorem d_R_repair_49 : decode c_R_repair 49 = .ok (.iload_n 2, 1) := by decide +kernel
theorem d_R_repair_50 : decode c_R_repair 50 = .ok (.iload_n 3, 1) := by decide +kernel
theorem d_R_repair_51 : decode c_R_repair 51 = .ok (.invokevirtual 114, 3) := by decide +kernel
theorem d_R_repair_54 : decode c_R_repair 54 = .ok (.iconst (0), 1) := by decide +kernel
theorem d_R_repair_55 : decode c_R_repair 55 = .ok (.istore 5, 2) := by decide +kernel
theorem d_R_repair_57 : decode c_R_repair 57 = .ok (.iload 5, 2) := by decide +kernel
theorem d_R_repair_59 : decode c_R_repair 59 = .ok (.aload_n 0, 1) := by decide +kernel
theorem d_R_repair_60 : decode c_R_repair 60 = .ok (.invokevirtual 51, 3) := by decide +kernel
theorem d_R_repair_63 : decode c_R_repair 63 = .ok (.if_icmp .ge (39), 3) := by decide +kernel
theorem d_R_repair_66 : decode c_R_repair 66 = .ok (.aload_n 0, 1) := by decide +kernel
theorem d_R_repair_67 : decode c_R_repair 67 = .ok (.iload_n 2, 1) := by decide +kernel
theorem d_R_repair_68 : decode c_R_repair 68 = .ok (.iload_n 3, 1) := by decide +kernel
theorem d_R_repair_69 : decode c_R_repair 69 = .ok (.iload 5, 2) := by decide +kernel
theorem d_R_repair_71 : decode c_R_repair 71 = .ok (.invokevirtual 71, 3) := by decide +kernel
theorem d_R_repair_74 : decode c_R_repair 74 = .ok (.ifCond .ge (20), 3) := by decide +kernel
theorem d_R_repair_77 : decode c_R_repair 77 = .ok (.aload_n 0, 1) := by decide +kernel
theorem d_R_repair_78 : decode c_R_repair 78 = .ok (.iload_n 2, 1) := by decide +kernel
theorem d_R_repair_79 : decode c_R_repair 79 = .ok (.iload_n 3, 1) := by decide +kernel
theorem d_R_repair_80 : decode c_R_repair 80 = .ok (.iload 5, 2) := by decide +kernel
theorem d_R_repair_82 : decode c_R_repair 82 = .ok (.invokevirtual 104, 3) := by decide +kernel
theorem d_R_repair_85 : decode c_R_repair 85 = .ok (.ifCond .eq (9), 3) := by decide +kernel
theorem d_R_repair_88 : decode c_R_repair 88 = .ok (.iload_n 1, 1) := by decide +kernel
theorem d_R_repair_89 : decode c_R_repair 89 = .ok (.iconst (1), 1) := by decide +kernel
theorem d_R_repair_90 : decode c_R_repair 90 = .ok (.iadd, 1) := by decide +kernel
theorem d_R_repair_91 : decode c_R_repair 91 = .ok (.goto (4), 3) := by decide +kernel
theorem d_R_repair_94 : decode c_R_repair 94 = .ok (.iload_n 1, 1) := by decide +kernel
theorem d_R_repair_95 : decode c_R_repair 95 = .ok (.istore_n 1, 1) := by decide +kernel
theorem d_R_repair_96 : decode c_R_repair 96 = .ok (.iinc 5 (1), 3) := by decide +kernel
theorem d_R_repair_99 : decode c_R_repair 99 = .ok (.goto (-42), 3) := by decide +kernel
theorem d_R_repair_102 : decode c_R_repair 102 = .ok (.iinc 3 (1), 3) := by decide +kernel
theorem d_R_repair_105 : decode c_R_repair 105 = .ok (.goto (-88), 3) := by decide +kernel
theorem d_R_repair_108 : decode c_R_repair 108 = .ok (.iinc 2 (1), 3) := by decide +kernel
theorem d_R_repair_111 : decode c_R_repair 111 = .ok (.goto (-102), 3) := by decide +kernel
theorem d_R_repair_114 : decode c_R_repair 114 = .ok (.iload_n 1, 1) := by decide +kernel
theorem d_R_repair_115 : decode c_R_repair 115 = .ok (.ireturn, 1) := by decide +kernel
theorem d_R_check_0 : decode c_R_check 0 = .ok (.aload_n 0, 1) := by decide +kernel
theorem d_R_check_1 : decode c_R_check 1 = .ok (.aload_n 0, 1) := by decide +kernel
theorem d_R_check_2 : decode c_R_check 2 = .ok (.iload_n 1, 1) := by decide +kernel
theorem d_R_check_3 : decode c_R_check 3 = .ok (.invokevirtual 108, 3) := by decide +kernel
theorem d_R_check_6 : decode c_R_check 6 = .ok (.ifCond .eq (7), 3) := by decide +kernel
theorem d_R_check_9 : decode c_R_check 9 = .ok (.iconst (0), 1) := by decide +kernel
theorem d_R_check_10 : decode c_R_check 10 = .ok (.goto (4), 3) := by decide +kernel
theorem d_R_check_13 : decode c_R_check 13 = .ok (.iconst (1), 1) := by decide +kernel
theorem d_R_check_14 : decode c_R_check 14 = .ok (.putfield 59, 3) := by decide +kernel
theorem d_R_check_17 : decode c_R_check 17 = .ok (.iconst (0), 1) := by decide +kernel
theorem d_R_check_18 : decode c_R_check 18 = .ok (.istore_n 2, 1) := by decide +kernel
theorem d_R_check_19 : decode c_R_check 19 = .ok (.iconst (0), 1) := by decide +kernel
theorem d_R_check_20 : decode c_R_check 20 = .ok (.istore_n 3, 1) := by decide +kernel
theorem d_R_check_21 : decode c_R_check 21 = .ok (.aload_n 0, 1) := by decide +kernel
theorem d_R_check_22 : decode c_R_check 22 = .ok (.getfield 59, 3) := by decide +kernel
theorem d_R_check_25 : decode c_R_check 25 = .ok (.ifCond .ne (131), 3) := by decide +kernel
theorem d_R_check_28 : decode c_R_check 28 = .ok (.iload_n 3, 1) := by decide +kernel
theorem d_R_check_29 : decode c_R_check 29 = .ok (.aload_n 0, 1) := by decide +kernel
theorem d_R_check_30 : decode c_R_check 30 = .ok (.iload_n 1, 1) := by decide +kernel
theorem d_R_check_31 : decode c_R_check 31 = .ok (.invokevirtual 101, 3) := by decide +kernel
theorem d_R_check_34 : decode c_R_check 34 = .ok (.if_icmp .ge (122), 3) := by decide +kernel
theorem d_R_check_37 : decode c_R_check 37 = .ok (.iconst (0), 1) := by decide +kernel
theorem d_R_check_38 : decode c_R_check 38 = .ok (.istore 4, 2) := by decide +kernel
theorem d_R_check_40 : decode c_R_check 40 = .ok (.aload_n 0, 1) := by decide +kernel
theorem d_R_check_41 : decode c_R_check 41 = .ok (.iload_n 1, 1) := by decide +kernel
theorem d_R_check_42 : decode c_R_check 42 = .ok (.iload_n 3, 1) := by decide +kernel
theorem d_R_check_43 : decode c_R_check 43 = .ok (.invokevirtual 111, 3) := by decide +kernel
theorem d_R_check_46 : decode c_R_check 46 = .ok (.aload_n 0, 1) := by decide +kernel
theorem d_R_check_47 : decode c_R_check 47 = .ok (.getfield 48, 3) := by decide +kernel
theorem d_R_check_50 : decode c_R_check 50 = .ok (.if_icmp .gt (87), 3) := by decide +kernel
theorem d_R_check_53 : decode c_R_check 53 = .ok (.aload_n 0, 1) := by decide +kernel
theorem d_R_check_54 : decode c_R_check 54 = .ok (.iload_n 1, 1) := by decide +kernel
theorem d_R_check_55 : decode c_R_check 55 = .ok (.iload_n 3, 1) := by decide +kernel
theorem d_R_check_56 : decode c_R_check 56 = .ok (.invokevirtual 114, 3) := by decide +kernel
theorem d_R_check_59 : decode c_R_check 59 = .ok (.iconst (0), 1) := by decide +kernel
theorem d_R_check_60 : decode c_R_check 60 = .ok (.istore 5, 2) := by decide +kernel
theorem d_R_check_62 : decode c_R_check 62 = .ok (.iload 5, 2) := by decide +kernel
theorem d_R_check_64 : decode c_R_check 64 = .ok (.iconst (4), 1) := by decide +kernel
theorem d_R_check_65 : decode c_R_check 65 = .ok (.aload_n 0, 1) := by decide +kernel
theorem d_R_check_66 : decode c_R_check 66 = .ok (.invokevirtual 51, 3) := by decide +kernel
theorem d_R_check_69 : decode c_R_check 69 = .ok (.imul, 1) := by decide +kernel
theorem d_R_check_70 : decode c_R_check 70 = .ok (.if_icmp .ge (67), 3) := by decide +kernel
theorem d_R_check_73 : decode c_R_check 73 = .ok (.aload_n 0, 1) := by decide +kernel
theorem d_R_check_74 : decode c_R_check 74 = .ok (.iload_n 1, 1) := by decide +kernel
theorem d_R_check_75 : decode c_R_check 75 = .ok (.iload_n 3, 1) := by decide +kernel
theorem d_R_check_76 : decode c_R_check 76 = .ok (.iload 5, 2) := by decide +kernel
theorem d_R_check_78 : decode c_R_check 78 = .ok (.iconst (4), 1) := by decide +kernel
theorem d_R_check_79 : decode c_R_check 79 = .ok (.idiv, 1) := by decide +kernel
theorem d_R_check_80 : decode c_R_check 80 = .ok (.invokevirtual 71, 3) := by decide +kernel
theorem d_R_check_83 : decode c_R_check 83 = .ok (.istore 6, 2) := by decide +kernel
theorem d_R_check_85 : decode c_R_check 85 = .ok (.iload 4, 2) := by decide +kernel
theorem d_R_check_87 : decode c_R_check 87 = .ok (.ifCond .ne (37), 3) := by decide +kernel
theorem d_R_check_90 : decode c_R_check 90 = .ok (.iload 6, 2) := by decide +kernel
theorem d_R_check_92 : decode c_R_check 92 = .ok (.ifCond .lt (36), 3) := by decide +kernel
theorem d_R_check_95 : decode c_R_check 95 = .ok (.aload_n 0, 1) := by decide +kernel
theorem d_R_check_96 : decode c_R_check 96 = .ok (.getfield 20, 3) := by decide +kernel
theorem d_R_check_99 : decode c_R_check 99 = .ok (.iconst (4), 1) := by decide +kernel
theorem d_R_check_100 : decode c_R_check 100 = .ok (.iload 6, 2) := by decide +kernel
theorem d_R_check_102 : decode c_R_check 102 = .ok (.imul, 1) := by decide +kernel
theorem d_R_check_103 : decode c_R_check 103 = .ok (.iload 5, 2) := by decide +kernel
theorem d_R_check_105 : decode c_R_check 105 = .ok (.iconst (4), 1) := by decide +kernel
theorem d_R_check_106 : decode c_R_check 106 = .ok (.irem, 1) := by decide +kernel
theorem d_R_check_107 : decode c_R_check 107 = .ok (.iadd, 1) := by decide +kernel
theorem d_R_check_108 : decode c_R_check 108 = .ok (.iaload, 1) := by decide +kernel
theorem d_R_check_109 : decode c_R_check 109 = .ok (.aload_n 0, 1) := by decide +kernel
theorem d_R_check_110 : decode c_R_check 110 = .ok (.iload 5, 2) := by decide +kernel
theorem d_R_check_112 : decode c_R_check 112 = .ok (.iconst (4), 1) := by decide +kernel
theorem d_R_check_113 : decode c_R_check 113 = .ok (.idiv, 1) := by decide +kernel
theorem d_R_check_114 : decode c_R_check 114 = .ok (.iload 5, 2) := by decide +kernel
theorem d_R_check_116 : decode c_R_check 116 = .ok (.iconst (4), 1) := by decide +kernel
theorem d_R_check_117 : decode c_R_check 117 = .ok (.irem, 1) := by decide +kernel
theorem d_R_check_118 : decode c_R_check 118 = .ok (.invokevirtual 91, 3) := by decide +kernel
theorem d_R_check_121 : decode c_R_check 121 = .ok (.if_icmp .eq (7), 3) := by decide +kernel
theorem d_R_check_124 : decode c_R_check 124 = .ok (.iconst (1), 1) := by decide +kernel
theorem d_R_check_125 : decode c_R_check 125 = .ok (.goto (4), 3) := by decide +kernel
theorem d_R_check_128 : decode c_R_check 128 = .ok (.iconst (0), 1) := by decide +kernel
theorem d_R_check_129 : decode c_R_check 129 = .ok (.istore 4, 2) := by decide +kernel
theorem d_R_check_131 : decode c_R_check 131 = .ok (.iinc 5 (1), 3) := by decide +kernel
theorem d_R_check_134 : decode c_R_check 134 = .ok (.goto (-72), 3) := by decide +kernel
theorem d_R_check_137 : decode c_R_check 137 = .ok (.iload 4, 2) := by decide +kernel
theorem d_R_check_139 : decode c_R_check 139 = .ok (.ifCond .eq (9), 3) := by decide +kernel
theorem d_R_check_142 : decode c_R_check 142 = .ok (.iload_n 2, 1) := by decide +kernel
theorem d_R_check_143 : decode c_R_check 143 = .ok (.iconst (1), 1) := by decide +kernel
theorem d_R_check_144 : decode c_R_check 144 = .ok (.iadd, 1) := by decide +kernel
theorem d_R_check_145 : decode c_R_check 145 = .ok (.goto (4), 3) := by decide +kernel
theorem d_R_check_148 : decode c_R_check 148 = .ok (.iload_n 2, 1) := by decide +kernel
theorem d_R_check_149 : decode c_R_check 149 = .ok (.istore_n 2, 1) := by decide +kernel
theorem d_R_check_150 : decode c_R_check 150 = .ok (.iinc 3 (1), 3) := by decide +kernel
theorem d_R_check_153 : decode c_R_check 153 = .ok (.goto (-132), 3) := by decide +kernel
theorem d_R_check_156 : decode c_R_check 156 = .ok (.iload_n 2, 1) := by decide +kernel
theorem d_R_check_157 : decode c_R_check 157 = .ok (.ireturn, 1) := by decide +kernel
theorem d_R_refusal_0 : decode c_R_refusal 0 = .ok (.iload_n 1, 1) := by decide +kernel
theorem d_R_refusal_1 : decode c_R_refusal 1 = .ok (.invokestatic 121, 3) := by decide +kernel
theorem d_R_refusal_4 : decode c_R_refusal 4 = .ok (.ifCond .eq (22), 3) := by decide +kernel
theorem d_R_refusal_7 : decode c_R_refusal 7 = .ok (.iload_n 2, 1) := by decide +kernel
theorem d_R_refusal_8 : decode c_R_refusal 8 = .ok (.ifCond .lt (18), 3) := by decide +kernel
theorem d_R_refusal_11 : decode c_R_refusal 11 = .ok (.iload_n 2, 1) := by decide +kernel
theorem d_R_refusal_12 : decode c_R_refusal 12 = .ok (.bipush (9), 2) := by decide +kernel
theorem d_R_refusal_14 : decode c_R_refusal 14 = .ok (.if_icmp .gt (12), 3) := by decide +kernel
theorem d_R_refusal_17 : decode c_R_refusal 17 = .ok (.iload_n 3, 1) := by decide +kernel
theorem d_R_refusal_18 : decode c_R_refusal 18 = .ok (.ifCond .lt (8), 3) := by decide +kernel
theorem d_R_refusal_21 : decode c_R_refusal 21 = .ok (.iload_n 3, 1) := by decide +kernel
theorem d_R_refusal_22 : decode c_R_refusal 22 = .ok (.iconst (3), 1) := by decide +kernel
theorem d_R_refusal_23 : decode c_R_refusal 23 = .ok (.if_icmp .le (7), 3) := by decide +kernel
theorem d_R_refusal_26 : decode c_R_refusal 26 = .ok (.iconst (1), 1) := by decide +kernel
theorem d_R_refusal_27 : decode c_R_refusal 27 = .ok (.goto (22), 3) := by decide +kernel
theorem d_R_refusal_30 : decode c_R_refusal 30 = .ok (.aload_n 0, 1) := by decide +kernel
theorem d_R_refusal_31 : decode c_R_refusal 31 = .ok (.getfield 17, 3) := by decide +kernel
theorem d_R_refusal_34 : decode c_R_refusal 34 = .ok (.bipush (10), 2) := by decide +kernel
theorem d_R_refusal_36 : decode c_R_refusal 36 = .ok (.iload_n 1, 1) := by decide +kernel
theorem d_R_refusal_37 : decode c_R_refusal 37 = .ok (.imul, 1) := by decide +kernel
theorem d_R_refusal_38 : decode c_R_refusal 38 = .ok (.iload_n 2, 1) := by decide +kernel
theorem d_R_refusal_39 : decode c_R_refusal 39 = .ok (.iadd, 1) := by decide +kernel
theorem d_R_refusal_40 : decode c_R_refusal 40 = .ok (.baload, 1) := by decide +kernel
theorem d_R_refusal_41 : decode c_R_refusal 41 = .ok (.ifCond .ne (7), 3) := by decide +kernel
theorem d_R_refusal_44 : decode c_R_refusal 44 = .ok (.iconst (2), 1) := by decide +kernel
theorem d_R_refusal_45 : decode c_R_refusal 45 = .ok (.goto (4), 3) := by decide +kernel
theorem d_R_refusal_48 : decode c_R_refusal 48 = .ok (.iconst (0), 1) := by decide +kernel
theorem d_R_refusal_49 : decode c_R_refusal 49 = .ok (.ireturn, 1) := by decide +kernel
theorem d_R_harm_0 : decode c_R_harm 0 = .ok (.aload_n 0, 1) := by decide +kernel
theorem d_R_harm_1 : decode c_R_harm 1 = .ok (.aload_n 0, 1) := by decide +kernel
theorem d_R_harm_2 : decode c_R_harm 2 = .ok (.iload_n 1, 1) := by decide +kernel
theorem d_R_harm_3 : decode c_R_harm 3 = .ok (.iload_n 2, 1) := by decide +kernel
theorem d_R_harm_4 : decode c_R_harm 4 = .ok (.iload_n 3, 1) := by decide +kernel
theorem d_R_harm_5 : decode c_R_harm 5 = .ok (.invokevirtual 124, 3) := by decide +kernel
theorem d_R_harm_8 : decode c_R_harm 8 = .ok (.putfield 59, 3) := by decide +kernel
theorem d_R_harm_11 : decode c_R_harm 11 = .ok (.aload_n 0, 1) := by decide +kernel
theorem d_R_harm_12 : decode c_R_harm 12 = .ok (.getfield 59, 3) := by decide +kernel
theorem d_R_harm_15 : decode c_R_harm 15 = .ok (.ifCond .le (5), 3) := by decide +kernel
theorem d_R_harm_18 : decode c_R_harm 18 = .ok (.iconst (0), 1) := by decide +kernel
theorem d_R_harm_19 : decode c_R_harm 19 = .ok (.ireturn, 1) := by decide +kernel
theorem d_R_harm_20 : decode c_R_harm 20 = .ok (.bipush (40), 2) := by decide +kernel
theorem d_R_harm_22 : decode c_R_harm 22 = .ok (.iload_n 1, 1) := by decide +kernel
theorem d_R_harm_23 : decode c_R_harm 23 = .ok (.imul, 1) := by decide +kernel
theorem d_R_harm_24 : decode c_R_harm 24 = .ok (.iconst (4), 1) := by decide +kernel
theorem d_R_harm_25 : decode c_R_harm 25 = .ok (.iload_n 2, 1) := by decide +kernel
theorem d_R_harm_26 : decode c_R_harm 26 = .ok (.imul, 1) := by decide +kernel
theorem d_R_harm_27 : decode c_R_harm 27 = .ok (.iadd, 1) := by decide +kernel
theorem d_R_harm_28 : decode c_R_harm 28 = .ok (.iload_n 3, 1) := by decide +kernel
theorem d_R_harm_29 : decode c_R_harm 29 = .ok (.iadd, 1) := by decide +kernel
theorem d_R_harm_30 : decode c_R_harm 30 = .ok (.istore 5, 2) := by decide +kernel
theorem d_R_harm_32 : decode c_R_harm 32 = .ok (.aload_n 0, 1) := by decide +kernel
theorem d_R_harm_33 : decode c_R_harm 33 = .ok (.getfield 20, 3) := by decide +kernel
theorem d_R_harm_36 : decode c_R_harm 36 = .ok (.iload 5, 2) := by decide +kernel
theorem d_R_harm_38 : decode c_R_harm 38 = .ok (.aload_n 0, 1) := by decide +kernel
theorem d_R_harm_39 : decode c_R_harm 39 = .ok (.getfield 20, 3) := by decide +kernel
theorem d_R_harm_42 : decode c_R_harm 42 = .ok (.iload 5, 2) := by decide +kernel
theorem d_R_harm_44 : decode c_R_harm 44 = .ok (.iaload, 1) := by decide +kernel
theorem d_R_harm_45 : decode c_R_harm 45 = .ok (.iload 4, 2) := by decide +kernel
theorem d_R_harm_47 : decode c_R_harm 47 = .ok (.sipush (255), 3) := by decide +kernel
theorem d_R_harm_50 : decode c_R_harm 50 = .ok (.iand, 1) := by decide +kernel
theorem d_R_harm_51 : decode c_R_harm 51 = .ok (.ixor, 1) := by decide +kernel
theorem d_R_harm_52 : decode c_R_harm 52 = .ok (.iastore, 1) := by decide +kernel
theorem d_R_harm_53 : decode c_R_harm 53 = .ok (.aload_n 0, 1) := by decide +kernel
theorem d_R_harm_54 : decode c_R_harm 54 = .ok (.getfield 20, 3) := by decide +kernel
theorem d_R_harm_57 : decode c_R_harm 57 = .ok (.iload 5, 2) := by decide +kernel
theorem d_R_harm_59 : decode c_R_harm 59 = .ok (.iaload, 1) := by decide +kernel
theorem d_R_harm_60 : decode c_R_harm 60 = .ok (.ireturn, 1) := by decide +kernel
theorem d_R_stored_0 : decode c_R_stored 0 = .ok (.aload_n 0, 1) := by decide +kernel
theorem d_R_stored_1 : decode c_R_stored 1 = .ok (.aload_n 0, 1) := by decide +kernel
theorem d_R_stored_2 : decode c_R_stored 2 = .ok (.iload_n 1, 1) := by decide +kernel
theorem d_R_stored_3 : decode c_R_stored 3 = .ok (.iload_n 2, 1) := by decide +kernel
theorem d_R_stored_4 : decode c_R_stored 4 = .ok (.iload_n 3, 1) := by decide +kernel
theorem d_R_stored_5 : decode c_R_stored 5 = .ok (.invokevirtual 124, 3) := by decide +kernel
theorem d_R_stored_8 : decode c_R_stored 8 = .ok (.putfield 59, 3) := by decide +kernel
theorem d_R_stored_11 : decode c_R_stored 11 = .ok (.aload_n 0, 1) := by decide +kernel
theorem d_R_stored_12 : decode c_R_stored 12 = .ok (.getfield 59, 3) := by decide +kernel
theorem d_R_stored_15 : decode c_R_stored 15 = .ok (.ifCond .le (7), 3) := by decide +kernel
theorem d_R_stored_18 : decode c_R_stored 18 = .ok (.iconst (0), 1) := by decide +kernel
theorem d_R_stored_19 : decode c_R_stored 19 = .ok (.goto (18), 3) := by decide +kernel
theorem d_R_stored_22 : decode c_R_stored 22 = .ok (.aload_n 0, 1) := by decide +kernel
theorem d_R_stored_23 : decode c_R_stored 23 = .ok (.getfield 20, 3) := by decide +kernel
theorem d_R_stored_26 : decode c_R_stored 26 = .ok (.bipush (40), 2) := by decide +kernel
theorem d_R_stored_28 : decode c_R_stored 28 = .ok (.iload_n 1, 1) := by decide +kernel
theorem d_R_stored_29 : decode c_R_stored 29 = .ok (.imul, 1) := by decide +kernel
theorem d_R_stored_30 : decode c_R_stored 30 = .ok (.iconst (4), 1) := by decide +kernel
theorem d_R_stored_31 : decode c_R_stored 31 = .ok (.iload_n 2, 1) := by decide +kernel
theorem d_R_stored_32 : decode c_R_stored 32 = .ok (.imul, 1) := by decide +kernel
theorem d_R_stored_33 : decode c_R_stored 33 = .ok (.iadd, 1) := by decide +kernel
theorem d_R_stored_34 : decode c_R_stored 34 = .ok (.iload_n 3, 1) := by decide +kernel
theorem d_R_stored_35 : decode c_R_stored 35 = .ok (.iadd, 1) := by decide +kernel
theorem d_R_stored_36 : decode c_R_stored 36 = .ok (.iaload, 1) := by decide +kernel
theorem d_R_stored_37 : decode c_R_stored 37 = .ok (.ireturn, 1) := by decide +kernel
theorem d_R_where_0 : decode c_R_where 0 = .ok (.aload_n 0, 1) := by decide +kernel
theorem d_R_where_1 : decode c_R_where 1 = .ok (.aload_n 0, 1) := by decide +kernel
theorem d_R_where_2 : decode c_R_where 2 = .ok (.iload_n 1, 1) := by decide +kernel
theorem d_R_where_3 : decode c_R_where 3 = .ok (.invokevirtual 108, 3) := by decide +kernel
theorem d_R_where_6 : decode c_R_where 6 = .ok (.ifCond .ne (7), 3) := by decide +kernel
theorem d_R_where_9 : decode c_R_where 9 = .ok (.iconst (1), 1) := by decide +kernel
theorem d_R_where_10 : decode c_R_where 10 = .ok (.goto (33), 3) := by decide +kernel
theorem d_R_where_13 : decode c_R_where 13 = .ok (.iload_n 2, 1) := by decide +kernel
theorem d_R_where_14 : decode c_R_where 14 = .ok (.ifCond .lt (24), 3) := by decide +kernel
theorem d_R_where_17 : decode c_R_where 17 = .ok (.iload_n 2, 1) := by decide +kernel
theorem d_R_where_18 : decode c_R_where 18 = .ok (.aload_n 0, 1) := by decide +kernel
theorem d_R_where_19 : decode c_R_where 19 = .ok (.iload_n 1, 1) := by decide +kernel
theorem d_R_where_20 : decode c_R_where 20 = .ok (.invokevirtual 101, 3) := by decide +kernel
theorem d_R_where_23 : decode c_R_where 23 = .ok (.if_icmp .ge (15), 3) := by decide +kernel
theorem d_R_where_26 : decode c_R_where 26 = .ok (.iload_n 3, 1) := by decide +kernel
theorem d_R_where_27 : decode c_R_where 27 = .ok (.ifCond .lt (11), 3) := by decide +kernel
theorem d_R_where_30 : decode c_R_where 30 = .ok (.iload_n 3, 1) := by decide +kernel
theorem d_R_where_31 : decode c_R_where 31 = .ok (.aload_n 0, 1) := by decide +kernel
theorem d_R_where_32 : decode c_R_where 32 = .ok (.invokevirtual 51, 3) := by decide +kernel
theorem d_R_where_35 : decode c_R_where 35 = .ok (.if_icmp .lt (7), 3) := by decide +kernel
theorem d_R_where_38 : decode c_R_where 38 = .ok (.iconst (2), 1) := by decide +kernel
theorem d_R_where_39 : decode c_R_where 39 = .ok (.goto (4), 3) := by decide +kernel
theorem d_R_where_42 : decode c_R_where 42 = .ok (.iconst (0), 1) := by decide +kernel
theorem d_R_where_43 : decode c_R_where 43 = .ok (.putfield 59, 3) := by decide +kernel
theorem d_R_where_46 : decode c_R_where 46 = .ok (.aload_n 0, 1) := by decide +kernel
theorem d_R_where_47 : decode c_R_where 47 = .ok (.getfield 59, 3) := by decide +kernel
theorem d_R_where_50 : decode c_R_where 50 = .ok (.ifCond .le (5), 3) := by decide +kernel
theorem d_R_where_53 : decode c_R_where 53 = .ok (.iconst (0), 1) := by decide +kernel
theorem d_R_where_54 : decode c_R_where 54 = .ok (.ireturn, 1) := by decide +kernel
theorem d_R_where_55 : decode c_R_where 55 = .ok (.aload_n 0, 1) := by decide +kernel
theorem d_R_where_56 : decode c_R_where 56 = .ok (.iload_n 1, 1) := by decide +kernel
theorem d_R_where_57 : decode c_R_where 57 = .ok (.iload_n 2, 1) := by decide +kernel
theorem d_R_where_58 : decode c_R_where 58 = .ok (.iload_n 3, 1) := by decide +kernel
theorem d_R_where_59 : decode c_R_where 59 = .ok (.invokevirtual 71, 3) := by decide +kernel
theorem d_R_where_62 : decode c_R_where 62 = .ok (.istore 4, 2) := by decide +kernel
theorem d_R_where_64 : decode c_R_where 64 = .ok (.iload 4, 2) := by decide +kernel
theorem d_R_where_66 : decode c_R_where 66 = .ok (.ifCond .ge (7), 3) := by decide +kernel
theorem d_R_where_69 : decode c_R_where 69 = .ok (.iconst (-1), 1) := by decide +kernel
theorem d_R_where_70 : decode c_R_where 70 = .ok (.goto (17), 3) := by decide +kernel
theorem d_R_where_73 : decode c_R_where 73 = .ok (.bipush (16), 2) := by decide +kernel
theorem d_R_where_75 : decode c_R_where 75 = .ok (.iload 4, 2) := by decide +kernel
theorem d_R_where_77 : decode c_R_where 77 = .ok (.bipush (10), 2) := by decide +kernel
theorem d_R_where_79 : decode c_R_where 79 = .ok (.idiv, 1) := by decide +kernel
theorem d_R_where_80 : decode c_R_where 80 = .ok (.imul, 1) := by decide +kernel
theorem d_R_where_81 : decode c_R_where 81 = .ok (.iload 4, 2) := by decide +kernel
theorem d_R_where_83 : decode c_R_where 83 = .ok (.bipush (10), 2) := by decide +kernel
theorem d_R_where_85 : decode c_R_where 85 = .ok (.irem, 1) := by decide +kernel
theorem d_R_where_86 : decode c_R_where 86 = .ok (.iadd, 1) := by decide +kernel
theorem d_R_where_87 : decode c_R_where 87 = .ok (.ireturn, 1) := by decide +kernel
theorem d_R_length_0 : decode c_R_length 0 = .ok (.aload_n 0, 1) := by decide +kernel
theorem d_R_length_1 : decode c_R_length 1 = .ok (.iconst (0), 1) := by decide +kernel
theorem d_R_length_2 : decode c_R_length 2 = .ok (.putfield 59, 3) := by decide +kernel
theorem d_R_length_5 : decode c_R_length 5 = .ok (.aload_n 0, 1) := by decide +kernel
theorem d_R_length_6 : decode c_R_length 6 = .ok (.iload_n 1, 1) := by decide +kernel
theorem d_R_length_7 : decode c_R_length 7 = .ok (.invokevirtual 108, 3) := by decide +kernel
theorem d_R_length_10 : decode c_R_length 10 = .ok (.ifCond .eq (12), 3) := by decide +kernel
theorem d_R_length_13 : decode c_R_length 13 = .ok (.aload_n 0, 1) := by decide +kernel
theorem d_R_length_14 : decode c_R_length 14 = .ok (.getfield 23, 3) := by decide +kernel
theorem d_R_length_17 : decode c_R_length 17 = .ok (.iload_n 1, 1) := by decide +kernel
theorem d_R_length_18 : decode c_R_length 18 = .ok (.iaload, 1) := by decide +kernel
theorem d_R_length_19 : decode c_R_length 19 = .ok (.goto (4), 3) := by decide +kernel
theorem d_R_length_22 : decode c_R_length 22 = .ok (.iconst (-1), 1) := by decide +kernel
theorem d_R_length_23 : decode c_R_length 23 = .ok (.ireturn, 1) := by decide +kernel
theorem d_R_room_0 : decode c_R_room 0 = .ok (.aload_n 0, 1) := by decide +kernel
theorem d_R_room_1 : decode c_R_room 1 = .ok (.iconst (0), 1) := by decide +kernel
theorem d_R_room_2 : decode c_R_room 2 = .ok (.putfield 59, 3) := by decide +kernel
theorem d_R_room_5 : decode c_R_room 5 = .ok (.iload_n 1, 1) := by decide +kernel
theorem d_R_room_6 : decode c_R_room 6 = .ok (.invokestatic 121, 3) := by decide +kernel
theorem d_R_room_9 : decode c_R_room 9 = .ok (.ifCond .eq (20), 3) := by decide +kernel
theorem d_R_room_12 : decode c_R_room 12 = .ok (.aload_n 0, 1) := by decide +kernel
theorem d_R_room_13 : decode c_R_room 13 = .ok (.getfield 13, 3) := by decide +kernel
theorem d_R_room_16 : decode c_R_room 16 = .ok (.iload_n 1, 1) := by decide +kernel
theorem d_R_room_17 : decode c_R_room 17 = .ok (.baload, 1) := by decide +kernel
theorem d_R_room_18 : decode c_R_room 18 = .ok (.ifCond .eq (11), 3) := by decide +kernel
theorem d_R_room_21 : decode c_R_room 21 = .ok (.aload_n 0, 1) := by decide +kernel
theorem d_R_room_22 : decode c_R_room 22 = .ok (.iload_n 1, 1) := by decide +kernel
theorem d_R_room_23 : decode c_R_room 23 = .ok (.invokevirtual 85, 3) := by decide +kernel
theorem d_R_room_26 : decode c_R_room 26 = .ok (.goto (4), 3) := by decide +kernel
theorem d_R_room_29 : decode c_R_room 29 = .ok (.iconst (-1), 1) := by decide +kernel
theorem d_R_room_30 : decode c_R_room 30 = .ok (.ireturn, 1) := by decide +kernel
theorem d_R_product_0 : decode c_R_product 0 = .ok (.aload_n 0, 1) := by decide +kernel
theorem d_R_product_1 : decode c_R_product 1 = .ok (.iload_n 1, 1) := by decide +kernel
theorem d_R_product_2 : decode c_R_product 2 = .ok (.ifCond .lt (22), 3) := by decide +kernel
theorem d_R_product_5 : decode c_R_product 5 = .ok (.iload_n 1, 1) := by decide +kernel
theorem d_R_product_6 : decode c_R_product 6 = .ok (.sipush (255), 3) := by decide +kernel
theorem d_R_product_9 : decode c_R_product 9 = .ok (.if_icmp .gt (15), 3) := by decide +kernel
theorem d_R_product_12 : decode c_R_product 12 = .ok (.iload_n 2, 1) := by decide +kernel
theorem d_R_product_13 : decode c_R_product 13 = .ok (.iconst (-1), 1) := by decide +kernel
theorem d_R_product_14 : decode c_R_product 14 = .ok (.if_icmp .lt (10), 3) := by decide +kernel
theorem d_R_product_17 : decode c_R_product 17 = .ok (.iload_n 2, 1) := by decide +kernel
theorem d_R_product_18 : decode c_R_product 18 = .ok (.sipush (255), 3) := by decide +kernel
theorem d_R_product_21 : decode c_R_product 21 = .ok (.if_icmp .le (7), 3) := by decide +kernel
theorem d_R_product_24 : decode c_R_product 24 = .ok (.iconst (1), 1) := by decide +kernel
theorem d_R_product_25 : decode c_R_product 25 = .ok (.goto (17), 3) := by decide +kernel
theorem d_R_product_28 : decode c_R_product 28 = .ok (.iload_n 2, 1) := by decide +kernel
theorem d_R_product_29 : decode c_R_product 29 = .ok (.iconst (-1), 1) := by decide +kernel
theorem d_R_product_30 : decode c_R_product 30 = .ok (.if_icmp .ne (11), 3) := by decide +kernel
theorem d_R_product_33 : decode c_R_product 33 = .ok (.iload_n 1, 1) := by decide +kernel
theorem d_R_product_34 : decode c_R_product 34 = .ok (.ifCond .ne (7), 3) := by decide +kernel
theorem d_R_product_37 : decode c_R_product 37 = .ok (.iconst (2), 1) := by decide +kernel
theorem d_R_product_38 : decode c_R_product 38 = .ok (.goto (4), 3) := by decide +kernel
theorem d_R_product_41 : decode c_R_product 41 = .ok (.iconst (0), 1) := by decide +kernel
theorem d_R_product_42 : decode c_R_product 42 = .ok (.putfield 59, 3) := by decide +kernel
theorem d_R_product_45 : decode c_R_product 45 = .ok (.aload_n 0, 1) := by decide +kernel
theorem d_R_product_46 : decode c_R_product 46 = .ok (.getfield 59, 3) := by decide +kernel
theorem d_R_product_49 : decode c_R_product 49 = .ok (.ifCond .le (5), 3) := by decide +kernel
theorem d_R_product_52 : decode c_R_product 52 = .ok (.iconst (0), 1) := by decide +kernel
theorem d_R_product_53 : decode c_R_product 53 = .ok (.ireturn, 1) := by decide +kernel
theorem d_R_product_54 : decode c_R_product 54 = .ok (.iload_n 2, 1) := by decide +kernel
theorem d_R_product_55 : decode c_R_product 55 = .ok (.ifCond .ge (10), 3) := by decide +kernel
theorem d_R_product_58 : decode c_R_product 58 = .ok (.iload_n 1, 1) := by decide +kernel
theorem d_R_product_59 : decode c_R_product 59 = .ok (.invokestatic 55, 3) := by decide +kernel
theorem d_R_product_62 : decode c_R_product 62 = .ok (.goto (8), 3) := by decide +kernel
theorem d_R_product_65 : decode c_R_product 65 = .ok (.iload_n 1, 1) := by decide +kernel
theorem d_R_product_66 : decode c_R_product 66 = .ok (.iload_n 2, 1) := by decide +kernel
theorem d_R_product_67 : decode c_R_product 67 = .ok (.invokestatic 67, 3) := by decide +kernel
theorem d_R_product_70 : decode c_R_product 70 = .ok (.ireturn, 1) := by decide +kernel
theorem d_G_init_0 : decode c_G_init 0 = .ok (.aload_n 0, 1) := by decide +kernel
theorem d_G_init_1 : decode c_G_init 1 = .ok (.invokespecial 3, 3) := by decide +kernel
theorem d_G_init_4 : decode c_G_init 4 = .ok (.aload_n 0, 1) := by decide +kernel
theorem d_G_init_5 : decode c_G_init 5 = .ok (.iload_n 2, 1) := by decide +kernel
theorem d_G_init_6 : decode c_G_init 6 = .ok (.putfield 9, 3) := by decide +kernel
theorem d_G_init_9 : decode c_G_init 9 = .ok (.aload_n 0, 1) := by decide +kernel
theorem d_G_init_10 : decode c_G_init 10 = .ok (.iconst (4), 1) := by decide +kernel
theorem d_G_init_11 : decode c_G_init 11 = .ok (.iload_n 1, 1) := by decide +kernel
theorem d_G_init_12 : decode c_G_init 12 = .ok (.imul, 1) := by decide +kernel
theorem d_G_init_13 : decode c_G_init 13 = .ok (.putfield 15, 3) := by decide +kernel
theorem d_G_init_16 : decode c_G_init 16 = .ok (.aload_n 0, 1) := by decide +kernel
theorem d_G_init_17 : decode c_G_init 17 = .ok (.bipush (6), 2) := by decide +kernel
theorem d_G_init_19 : decode c_G_init 19 = .ok (.newarray .int, 2) := by decide +kernel
theorem d_G_init_21 : decode c_G_init 21 = .ok (.putfield 18, 3) := by decide +kernel
theorem d_G_init_24 : decode c_G_init 24 = .ok (.aload_n 0, 1) := by decide +kernel
theorem d_G_init_25 : decode c_G_init 25 = .ok (.sipush (336), 3) := by decide +kernel
theorem d_G_init_28 : decode c_G_init 28 = .ok (.newarray .int, 2) := by decide +kernel
theorem d_G_init_30 : decode c_G_init 30 = .ok (.putfield 22, 3) := by decide +kernel
theorem d_G_init_33 : decode c_G_init 33 = .ok (.aload_n 0, 1) := by decide +kernel
theorem d_G_init_34 : decode c_G_init 34 = .ok (.getfield 22, 3) := by decide +kernel
theorem d_G_init_37 : decode c_G_init 37 = .ok (.iconst (-1), 1) := by decide +kernel
theorem d_G_init_38 : decode c_G_init 38 = .ok (.invokestatic 25, 3) := by decide +kernel
theorem d_G_init_41 : decode c_G_init 41 = .ok (.return_, 1) := by decide +kernel
theorem d_G_holds_0 : decode c_G_holds 0 = .ok (.aload_n 0, 1) := by decide +kernel
theorem d_G_holds_1 : decode c_G_holds 1 = .ok (.getfield 18, 3) := by decide +kernel
theorem d_G_holds_4 : decode c_G_holds 4 = .ok (.iload_n 1, 1) := by decide +kernel
theorem d_G_holds_5 : decode c_G_holds 5 = .ok (.iaload, 1) := by decide +kernel
theorem d_G_holds_6 : decode c_G_holds 6 = .ok (.ifCond .le (7), 3) := by decide +kernel
theorem d_G_holds_9 : decode c_G_holds 9 = .ok (.iconst (1), 1) := by decide +kernel
theorem d_G_holds_10 : decode c_G_holds 10 = .ok (.goto (4), 3) := by decide +kernel
theorem d_G_holds_13 : decode c_G_holds 13 = .ok (.iconst (0), 1) := by decide +kernel
theorem d_G_holds_14 : decode c_G_holds 14 = .ok (.ireturn, 1) := by decide +kernel
theorem d_G_lengthOf_0 : decode c_G_lengthOf 0 = .ok (.aload_n 0, 1) := by decide +kernel
theorem d_G_lengthOf_1 : decode c_G_lengthOf 1 = .ok (.getfield 18, 3) := by decide +kernel
theorem d_G_lengthOf_4 : decode c_G_lengthOf 4 = .ok (.iload_n 1, 1) := by decide +kernel
theorem d_G_lengthOf_5 : decode c_G_lengthOf 5 = .ok (.iaload, 1) := by decide +kernel
theorem d_G_lengthOf_6 : decode c_G_lengthOf 6 = .ok (.ireturn, 1) := by decide +kernel
theorem d_G_stripesOf_0 : decode c_G_stripesOf 0 = .ok (.aload_n 0, 1) := by decide +kernel
theorem d_G_stripesOf_1 : decode c_G_stripesOf 1 = .ok (.getfield 18, 3) := by decide +kernel
theorem d_G_stripesOf_4 : decode c_G_stripesOf 4 = .ok (.iload_n 1, 1) := by decide +kernel
theorem d_G_stripesOf_5 : decode c_G_stripesOf 5 = .ok (.iaload, 1) := by decide +kernel
theorem d_G_stripesOf_6 : decode c_G_stripesOf 6 = .ok (.aload_n 0, 1) := by decide +kernel
theorem d_G_stripesOf_7 : decode c_G_stripesOf 7 = .ok (.getfield 15, 3) := by decide +kernel
theorem d_G_stripesOf_10 : decode c_G_stripesOf 10 = .ok (.iadd, 1) := by decide +kernel
theorem d_G_stripesOf_11 : decode c_G_stripesOf 11 = .ok (.iconst (1), 1) := by decide +kernel
theorem d_G_stripesOf_12 : decode c_G_stripesOf 12 = .ok (.isub, 1) := by decide +kernel
theorem d_G_stripesOf_13 : decode c_G_stripesOf 13 = .ok (.aload_n 0, 1) := by decide +kernel
theorem d_G_stripesOf_14 : decode c_G_stripesOf 14 = .ok (.getfield 15, 3) := by decide +kernel
theorem d_G_stripesOf_17 : decode c_G_stripesOf 17 = .ok (.idiv, 1) := by decide +kernel
theorem d_G_stripesOf_18 : decode c_G_stripesOf 18 = .ok (.ireturn, 1) := by decide +kernel
theorem d_G_enter_0 : decode c_G_enter 0 = .ok (.aload_n 0, 1) := by decide +kernel
theorem d_G_enter_1 : decode c_G_enter 1 = .ok (.getfield 18, 3) := by decide +kernel
theorem d_G_enter_4 : decode c_G_enter 4 = .ok (.iload_n 1, 1) := by decide +kernel
theorem d_G_enter_5 : decode c_G_enter 5 = .ok (.iload_n 2, 1) := by decide +kernel
theorem d_G_enter_6 : decode c_G_enter 6 = .ok (.iastore, 1) := by decide +kernel
theorem d_G_enter_7 : decode c_G_enter 7 = .ok (.return_, 1) := by decide +kernel
theorem d_G_strike_0 : decode c_G_strike 0 = .ok (.aload_n 0, 1) := by decide +kernel
theorem d_G_strike_1 : decode c_G_strike 1 = .ok (.getfield 18, 3) := by decide +kernel
theorem d_G_strike_4 : decode c_G_strike 4 = .ok (.iload_n 1, 1) := by decide +kernel
theorem d_G_strike_5 : decode c_G_strike 5 = .ok (.iconst (0), 1) := by decide +kernel
theorem d_G_strike_6 : decode c_G_strike 6 = .ok (.iastore, 1) := by decide +kernel
theorem d_G_strike_7 : decode c_G_strike 7 = .ok (.return_, 1) := by decide +kernel
theorem d_G_rowOf_0 : decode c_G_rowOf 0 = .ok (.iload_n 1, 1) := by decide +kernel
theorem d_G_rowOf_1 : decode c_G_rowOf 1 = .ok (.bipush (56), 2) := by decide +kernel
theorem d_G_rowOf_3 : decode c_G_rowOf 3 = .ok (.imul, 1) := by decide +kernel
theorem d_G_rowOf_4 : decode c_G_rowOf 4 = .ok (.iload_n 2, 1) := by decide +kernel
theorem d_G_rowOf_5 : decode c_G_rowOf 5 = .ok (.aload_n 0, 1) := by decide +kernel
theorem d_G_rowOf_6 : decode c_G_rowOf 6 = .ok (.getfield 9, 3) := by decide +kernel
theorem d_G_rowOf_9 : decode c_G_rowOf 9 = .ok (.imul, 1) := by decide +kernel
theorem d_G_rowOf_10 : decode c_G_rowOf 10 = .ok (.iadd, 1) := by decide +kernel
theorem d_G_rowOf_11 : decode c_G_rowOf 11 = .ok (.ireturn, 1) := by decide +kernel
theorem d_G_placeOf_0 : decode c_G_placeOf 0 = .ok (.aload_n 0, 1) := by decide +kernel
theorem d_G_placeOf_1 : decode c_G_placeOf 1 = .ok (.getfield 22, 3) := by decide +kernel
theorem d_G_placeOf_4 : decode c_G_placeOf 4 = .ok (.iload_n 1, 1) := by decide +kernel
theorem d_G_placeOf_5 : decode c_G_placeOf 5 = .ok (.iload_n 2, 1) := by decide +kernel
theorem d_G_placeOf_6 : decode c_G_placeOf 6 = .ok (.iadd, 1) := by decide +kernel
theorem d_G_placeOf_7 : decode c_G_placeOf 7 = .ok (.iaload, 1) := by decide +kernel
theorem d_G_placeOf_8 : decode c_G_placeOf 8 = .ok (.ireturn, 1) := by decide +kernel
theorem d_G_setPlace_0 : decode c_G_setPlace 0 = .ok (.aload_n 0, 1) := by decide +kernel
theorem d_G_setPlace_1 : decode c_G_setPlace 1 = .ok (.getfield 22, 3) := by decide +kernel
theorem d_G_setPlace_4 : decode c_G_setPlace 4 = .ok (.iload_n 1, 1) := by decide +kernel
theorem d_G_setPlace_5 : decode c_G_setPlace 5 = .ok (.iload_n 2, 1) := by decide +kernel
theorem d_G_setPlace_6 : decode c_G_setPlace 6 = .ok (.iadd, 1) := by decide +kernel
theorem d_G_setPlace_7 : decode c_G_setPlace 7 = .ok (.iload_n 3, 1) := by decide +kernel
theorem d_G_setPlace_8 : decode c_G_setPlace 8 = .ok (.iastore, 1) := by decide +kernel
theorem d_G_setPlace_9 : decode c_G_setPlace 9 = .ok (.return_, 1) := by decide +kernel
theorem d_G_countLost_0 : decode c_G_countLost 0 = .ok (.iconst (0), 1) := by decide +kernel
theorem d_G_countLost_1 : decode c_G_countLost 1 = .ok (.istore_n 2, 1) := by decide +kernel
theorem d_G_countLost_2 : decode c_G_countLost 2 = .ok (.iconst (0), 1) := by decide +kernel
theorem d_G_countLost_3 : decode c_G_countLost 3 = .ok (.istore_n 3, 1) := by decide +kernel
theorem d_G_countLost_4 : decode c_G_countLost 4 = .ok (.iload_n 3, 1) := by decide +kernel
theorem d_G_countLost_5 : decode c_G_countLost 5 = .ok (.aload_n 0, 1) := by decide +kernel
theorem d_G_countLost_6 : decode c_G_countLost 6 = .ok (.getfield 9, 3) := by decide +kernel
theorem d_G_countLost_9 : decode c_G_countLost 9 = .ok (.if_icmp .ge (24), 3) := by decide +kernel
theorem d_G_countLost_12 : decode c_G_countLost 12 = .ok (.aload_n 0, 1) := by decide +kernel
theorem d_G_countLost_13 : decode c_G_countLost 13 = .ok (.getfield 22, 3) := by decide +kernel
theorem d_G_countLost_16 : decode c_G_countLost 16 = .ok (.iload_n 1, 1) := by decide +kernel
theorem d_G_countLost_17 : decode c_G_countLost 17 = .ok (.iload_n 3, 1) := by decide +kernel
theorem d_G_countLost_18 : decode c_G_countLost 18 = .ok (.iadd, 1) := by decide +kernel
theorem d_G_countLost_19 : decode c_G_countLost 19 = .ok (.iaload, 1) := by decide +kernel
theorem d_G_countLost_20 : decode c_G_countLost 20 = .ok (.iconst (-1), 1) := by decide +kernel
theorem d_G_countLost_21 : decode c_G_countLost 21 = .ok (.if_icmp .ne (6), 3) := by decide +kernel
theorem d_G_countLost_24 : decode c_G_countLost 24 = .ok (.iinc 2 (1), 3) := by decide +kernel
theorem d_G_countLost_27 : decode c_G_countLost 27 = .ok (.iinc 3 (1), 3) := by decide +kernel
theorem d_G_countLost_30 : decode c_G_countLost 30 = .ok (.goto (-26), 3) := by decide +kernel
theorem d_G_countLost_33 : decode c_G_countLost 33 = .ok (.iload_n 2, 1) := by decide +kernel
theorem d_G_countLost_34 : decode c_G_countLost 34 = .ok (.ireturn, 1) := by decide +kernel
theorem d_G_isOnDisk_0 : decode c_G_isOnDisk 0 = .ok (.iconst (0), 1) := by decide +kernel
theorem d_G_isOnDisk_1 : decode c_G_isOnDisk 1 = .ok (.istore_n 3, 1) := by decide +kernel
theorem d_G_isOnDisk_2 : decode c_G_isOnDisk 2 = .ok (.iload_n 3, 1) := by decide +kernel
theorem d_G_isOnDisk_3 : decode c_G_isOnDisk 3 = .ok (.aload_n 0, 1) := by decide +kernel
theorem d_G_isOnDisk_4 : decode c_G_isOnDisk 4 = .ok (.getfield 9, 3) := by decide +kernel
theorem d_G_isOnDisk_7 : decode c_G_isOnDisk 7 = .ok (.if_icmp .ge (26), 3) := by decide +kernel
theorem d_G_isOnDisk_10 : decode c_G_isOnDisk 10 = .ok (.aload_n 0, 1) := by decide +kernel
theorem d_G_isOnDisk_11 : decode c_G_isOnDisk 11 = .ok (.getfield 22, 3) := by decide +kernel
theorem d_G_isOnDisk_14 : decode c_G_isOnDisk 14 = .ok (.iload_n 1, 1) := by decide +kernel
theorem d_G_isOnDisk_15 : decode c_G_isOnDisk 15 = .ok (.iload_n 3, 1) := by decide +kernel
theorem d_G_isOnDisk_16 : decode c_G_isOnDisk 16 = .ok (.iadd, 1) := by decide +kernel
theorem d_G_isOnDisk_17 : decode c_G_isOnDisk 17 = .ok (.iaload, 1) := by decide +kernel
theorem d_G_isOnDisk_18 : decode c_G_isOnDisk 18 = .ok (.iload_n 2, 1) := by decide +kernel
theorem d_G_isOnDisk_19 : decode c_G_isOnDisk 19 = .ok (.invokestatic 31, 3) := by decide +kernel
theorem d_G_isOnDisk_22 : decode c_G_isOnDisk 22 = .ok (.ifCond .eq (5), 3) := by decide +kernel
theorem d_G_isOnDisk_25 : decode c_G_isOnDisk 25 = .ok (.iconst (1), 1) := by decide +kernel
theorem d_G_isOnDisk_26 : decode c_G_isOnDisk 26 = .ok (.ireturn, 1) := by decide +kernel
theorem d_G_isOnDisk_27 : decode c_G_isOnDisk 27 = .ok (.iinc 3 (1), 3) := by decide +kernel
theorem d_G_isOnDisk_30 : decode c_G_isOnDisk 30 = .ok (.goto (-28), 3) := by decide +kernel
theorem d_G_isOnDisk_33 : decode c_G_isOnDisk 33 = .ok (.iconst (0), 1) := by decide +kernel
theorem d_G_isOnDisk_34 : decode c_G_isOnDisk 34 = .ok (.ireturn, 1) := by decide +kernel
end
section
/-! decode rows -/
theorem d_G_loseDisk_0 : decode c_G_loseDisk 0 = .ok (.iconst (0), 1) := by decide +kernel
theorem d_G_loseDisk_1 : decode c_G_loseDisk 1 = .ok (.istore_n 2, 1) := by decide +kernel
theorem d_G_loseDisk_2 : decode c_G_loseDisk 2 = .ok (.iload_n 2, 1) := by decide +kernel
theorem d_G_loseDisk_3 : decode c_G_loseDisk 3 = .ok (.aload_n 0, 1) := by decide +kernel
theorem d_G_loseDisk_4 : decode c_G_loseDisk 4 = .ok (.getfield 22, 3) := by decide +kernel
theorem d_G_loseDisk_7 : decode c_G_loseDisk 7 = .ok (.arraylength, 1) := by decide +kernel
theorem d_G_loseDisk_8 : decode c_G_loseDisk 8 = .ok (.if_icmp .ge (29), 3) := by decide +kernel
theorem d_G_loseDisk_11 : decode c_G_loseDisk 11 = .ok (.aload_n 0, 1) := by decide +kernel
theorem d_G_loseDisk_12 : decode c_G_loseDisk 12 = .ok (.getfield 22, 3) := by decide +kernel
theorem d_G_loseDisk_15 : decode c_G_loseDisk 15 = .ok (.iload_n 2, 1) := by decide +kernel
theorem d_G_loseDisk_16 : decode c_G_loseDisk 16 = .ok (.iaload, 1) := by decide +kernel
theorem d_G_loseDisk_17 : decode c_G_loseDisk 17 = .ok (.iload_n 1, 1) := by decide +kernel
theorem d_G_loseDisk_18 : decode c_G_loseDisk 18 = .ok (.invokestatic 31, 3) := by decide +kernel
theorem d_G_loseDisk_21 : decode c_G_loseDisk 21 = .ok (.ifCond .eq (10), 3) := by decide +kernel
theorem d_G_loseDisk_24 : decode c_G_loseDisk 24 = .ok (.aload_n 0, 1) := by decide +kernel
theorem d_G_loseDisk_25 : decode c_G_loseDisk 25 = .ok (.getfield 22, 3) := by decide +kernel
theorem d_G_loseDisk_28 : decode c_G_loseDisk 28 = .ok (.iload_n 2, 1) := by decide +kernel
theorem d_G_loseDisk_29 : decode c_G_loseDisk 29 = .ok (.iconst (-1), 1) := by decide +kernel
theorem d_G_loseDisk_30 : decode c_G_loseDisk 30 = .ok (.iastore, 1) := by decide +kernel
theorem d_G_loseDisk_31 : decode c_G_loseDisk 31 = .ok (.iinc 2 (1), 3) := by decide +kernel
theorem d_G_loseDisk_34 : decode c_G_loseDisk 34 = .ok (.goto (-32), 3) := by decide +kernel
theorem d_G_loseDisk_37 : decode c_G_loseDisk 37 = .ok (.return_, 1) := by decide +kernel
theorem d_G_isPlaceOnDisk_0 : decode c_G_isPlaceOnDisk 0 = .ok (.iload_n 0, 1) := by decide +kernel
theorem d_G_isPlaceOnDisk_1 : decode c_G_isPlaceOnDisk 1 = .ok (.iconst (-1), 1) := by decide +kernel
theorem d_G_isPlaceOnDisk_2 : decode c_G_isPlaceOnDisk 2 = .ok (.if_icmp .eq (15), 3) := by decide +kernel
theorem d_G_isPlaceOnDisk_5 : decode c_G_isPlaceOnDisk 5 = .ok (.iload_n 0, 1) := by decide +kernel
theorem d_G_isPlaceOnDisk_6 : decode c_G_isPlaceOnDisk 6 = .ok (.bipush (16), 2) := by decide +kernel
theorem d_G_isPlaceOnDisk_8 : decode c_G_isPlaceOnDisk 8 = .ok (.idiv, 1) := by decide +kernel
theorem d_G_isPlaceOnDisk_9 : decode c_G_isPlaceOnDisk 9 = .ok (.iload_n 1, 1) := by decide +kernel
theorem d_G_isPlaceOnDisk_10 : decode c_G_isPlaceOnDisk 10 = .ok (.if_icmp .ne (7), 3) := by decide +kernel
theorem d_G_isPlaceOnDisk_13 : decode c_G_isPlaceOnDisk 13 = .ok (.iconst (1), 1) := by decide +kernel
theorem d_G_isPlaceOnDisk_14 : decode c_G_isPlaceOnDisk 14 = .ok (.goto (4), 3) := by decide +kernel
theorem d_G_isPlaceOnDisk_17 : decode c_G_isPlaceOnDisk 17 = .ok (.iconst (0), 1) := by decide +kernel
theorem d_G_isPlaceOnDisk_18 : decode c_G_isPlaceOnDisk 18 = .ok (.ireturn, 1) := by decide +kernel
theorem d_C_init_0 : decode c_C_init 0 = .ok (.aload_n 0, 1) := by decide +kernel
theorem d_C_init_1 : decode c_C_init 1 = .ok (.invokespecial 3, 3) := by decide +kernel
theorem d_C_init_4 : decode c_C_init 4 = .ok (.aload_n 0, 1) := by decide +kernel
theorem d_C_init_5 : decode c_C_init 5 = .ok (.iload_n 1, 1) := by decide +kernel
theorem d_C_init_6 : decode c_C_init 6 = .ok (.putfield 9, 3) := by decide +kernel
theorem d_C_init_9 : decode c_C_init 9 = .ok (.aload_n 0, 1) := by decide +kernel
theorem d_C_init_10 : decode c_C_init 10 = .ok (.iload_n 2, 1) := by decide +kernel
theorem d_C_init_11 : decode c_C_init 11 = .ok (.putfield 15, 3) := by decide +kernel
theorem d_C_init_14 : decode c_C_init 14 = .ok (.aload_n 0, 1) := by decide +kernel
theorem d_C_init_15 : decode c_C_init 15 = .ok (.iconst (4), 1) := by decide +kernel
theorem d_C_init_16 : decode c_C_init 16 = .ok (.iload_n 1, 1) := by decide +kernel
theorem d_C_init_17 : decode c_C_init 17 = .ok (.imul, 1) := by decide +kernel
theorem d_C_init_18 : decode c_C_init 18 = .ok (.putfield 18, 3) := by decide +kernel
theorem d_C_init_21 : decode c_C_init 21 = .ok (.aload_n 0, 1) := by decide +kernel
theorem d_C_init_22 : decode c_C_init 22 = .ok (.aload_n 0, 1) := by decide +kernel
theorem d_C_init_23 : decode c_C_init 23 = .ok (.getfield 18, 3) := by decide +kernel
theorem d_C_init_26 : decode c_C_init 26 = .ok (.newarray .int, 2) := by decide +kernel
theorem d_C_init_28 : decode c_C_init 28 = .ok (.putfield 21, 3) := by decide +kernel
theorem d_C_init_31 : decode c_C_init 31 = .ok (.aload_n 0, 1) := by decide +kernel
theorem d_C_init_32 : decode c_C_init 32 = .ok (.iload_n 1, 1) := by decide +kernel
theorem d_C_init_33 : decode c_C_init 33 = .ok (.iload_n 1, 1) := by decide +kernel
theorem d_C_init_34 : decode c_C_init 34 = .ok (.imul, 1) := by decide +kernel
theorem d_C_init_35 : decode c_C_init 35 = .ok (.newarray .int, 2) := by decide +kernel
theorem d_C_init_37 : decode c_C_init 37 = .ok (.putfield 25, 3) := by decide +kernel
theorem d_C_init_40 : decode c_C_init 40 = .ok (.aload_n 0, 1) := by decide +kernel
theorem d_C_init_41 : decode c_C_init 41 = .ok (.iload_n 2, 1) := by decide +kernel
theorem d_C_init_42 : decode c_C_init 42 = .ok (.iload_n 1, 1) := by decide +kernel
theorem d_C_init_43 : decode c_C_init 43 = .ok (.imul, 1) := by decide +kernel
theorem d_C_init_44 : decode c_C_init 44 = .ok (.newarray .int, 2) := by decide +kernel
theorem d_C_init_46 : decode c_C_init 46 = .ok (.putfield 28, 3) := by decide +kernel
theorem d_C_init_49 : decode c_C_init 49 = .ok (.iconst (0), 1) := by decide +kernel
theorem d_C_init_50 : decode c_C_init 50 = .ok (.istore_n 3, 1) := by decide +kernel
theorem d_C_init_51 : decode c_C_init 51 = .ok (.iload_n 3, 1) := by decide +kernel
theorem d_C_init_52 : decode c_C_init 52 = .ok (.iload_n 2, 1) := by decide +kernel
theorem d_C_init_53 : decode c_C_init 53 = .ok (.if_icmp .ge (42), 3) := by decide +kernel
theorem d_C_init_56 : decode c_C_init 56 = .ok (.iconst (0), 1) := by decide +kernel
theorem d_C_init_57 : decode c_C_init 57 = .ok (.istore 4, 2) := by decide +kernel
theorem d_C_init_59 : decode c_C_init 59 = .ok (.iload 4, 2) := by decide +kernel
theorem d_C_init_61 : decode c_C_init 61 = .ok (.iload_n 1, 1) := by decide +kernel
theorem d_C_init_62 : decode c_C_init 62 = .ok (.if_icmp .ge (27), 3) := by decide +kernel
theorem d_C_init_65 : decode c_C_init 65 = .ok (.aload_n 0, 1) := by decide +kernel
theorem d_C_init_66 : decode c_C_init 66 = .ok (.getfield 28, 3) := by decide +kernel
theorem d_C_init_69 : decode c_C_init 69 = .ok (.iload_n 3, 1) := by decide +kernel
theorem d_C_init_70 : decode c_C_init 70 = .ok (.iload_n 1, 1) := by decide +kernel
theorem d_C_init_71 : decode c_C_init 71 = .ok (.imul, 1) := by decide +kernel
theorem d_C_init_72 : decode c_C_init 72 = .ok (.iload 4, 2) := by decide +kernel
theorem d_C_init_74 : decode c_C_init 74 = .ok (.iadd, 1) := by decide +kernel
theorem d_C_init_75 : decode c_C_init 75 = .ok (.iload_n 3, 1) := by decide +kernel
theorem d_C_init_76 : decode c_C_init 76 = .ok (.iload 4, 2) := by decide +kernel
theorem d_C_init_78 : decode c_C_init 78 = .ok (.iload_n 1, 1) := by decide +kernel
theorem d_C_init_79 : decode c_C_init 79 = .ok (.invokestatic 31, 3) := by decide +kernel
theorem d_C_init_82 : decode c_C_init 82 = .ok (.iastore, 1) := by decide +kernel
theorem d_C_init_83 : decode c_C_init 83 = .ok (.iinc 4 (1), 3) := by decide +kernel
theorem d_C_init_86 : decode c_C_init 86 = .ok (.goto (-27), 3) := by decide +kernel
theorem d_C_init_89 : decode c_C_init 89 = .ok (.iinc 3 (1), 3) := by decide +kernel
theorem d_C_init_92 : decode c_C_init 92 = .ok (.goto (-41), 3) := by decide +kernel
theorem d_C_init_95 : decode c_C_init 95 = .ok (.return_, 1) := by decide +kernel
theorem d_C_factor_0 : decode c_C_factor 0 = .ok (.iload_n 0, 1) := by decide +kernel
theorem d_C_factor_1 : decode c_C_factor 1 = .ok (.iload_n 2, 1) := by decide +kernel
theorem d_C_factor_2 : decode c_C_factor 2 = .ok (.if_icmp .ge (14), 3) := by decide +kernel
theorem d_C_factor_5 : decode c_C_factor 5 = .ok (.iload_n 0, 1) := by decide +kernel
theorem d_C_factor_6 : decode c_C_factor 6 = .ok (.iload_n 1, 1) := by decide +kernel
theorem d_C_factor_7 : decode c_C_factor 7 = .ok (.if_icmp .ne (7), 3) := by decide +kernel
theorem d_C_factor_10 : decode c_C_factor 10 = .ok (.iconst (1), 1) := by decide +kernel
theorem d_C_factor_11 : decode c_C_factor 11 = .ok (.goto (4), 3) := by decide +kernel
theorem d_C_factor_14 : decode c_C_factor 14 = .ok (.iconst (0), 1) := by decide +kernel
theorem d_C_factor_15 : decode c_C_factor 15 = .ok (.ireturn, 1) := by decide +kernel
theorem d_C_factor_16 : decode c_C_factor 16 = .ok (.iload_n 0, 1) := by decide +kernel
theorem d_C_factor_17 : decode c_C_factor 17 = .ok (.iload_n 1, 1) := by decide +kernel
theorem d_C_factor_18 : decode c_C_factor 18 = .ok (.ixor, 1) := by decide +kernel
theorem d_C_factor_19 : decode c_C_factor 19 = .ok (.invokestatic 35, 3) := by decide +kernel
theorem d_C_factor_22 : decode c_C_factor 22 = .ok (.ireturn, 1) := by decide +kernel
theorem d_C_shardByte_0 : decode c_C_shardByte 0 = .ok (.iload_n 1, 1) := by decide +kernel
theorem d_C_shardByte_1 : decode c_C_shardByte 1 = .ok (.aload_n 0, 1) := by decide +kernel
theorem d_C_shardByte_2 : decode c_C_shardByte 2 = .ok (.getfield 9, 3) := by decide +kernel
theorem d_C_shardByte_5 : decode c_C_shardByte 5 = .ok (.if_icmp .ge (14), 3) := by decide +kernel
theorem d_C_shardByte_8 : decode c_C_shardByte 8 = .ok (.aload_n 0, 1) := by decide +kernel
theorem d_C_shardByte_9 : decode c_C_shardByte 9 = .ok (.getfield 21, 3) := by decide +kernel
theorem d_C_shardByte_12 : decode c_C_shardByte 12 = .ok (.iload_n 1, 1) := by decide +kernel
theorem d_C_shardByte_13 : decode c_C_shardByte 13 = .ok (.iconst (4), 1) := by decide +kernel
theorem d_C_shardByte_14 : decode c_C_shardByte 14 = .ok (.imul, 1) := by decide +kernel
theorem d_C_shardByte_15 : decode c_C_shardByte 15 = .ok (.iload_n 2, 1) := by decide +kernel
theorem d_C_shardByte_16 : decode c_C_shardByte 16 = .ok (.iadd, 1) := by decide +kernel
theorem d_C_shardByte_17 : decode c_C_shardByte 17 = .ok (.iaload, 1) := by decide +kernel
theorem d_C_shardByte_18 : decode c_C_shardByte 18 = .ok (.ireturn, 1) := by decide +kernel
theorem d_C_shardByte_19 : decode c_C_shardByte 19 = .ok (.iconst (0), 1) := by decide +kernel
theorem d_C_shardByte_20 : decode c_C_shardByte 20 = .ok (.istore_n 3, 1) := by decide +kernel
theorem d_C_shardByte_21 : decode c_C_shardByte 21 = .ok (.iconst (0), 1) := by decide +kernel
theorem d_C_shardByte_22 : decode c_C_shardByte 22 = .ok (.istore 4, 2) := by decide +kernel
theorem d_C_shardByte_24 : decode c_C_shardByte 24 = .ok (.iload 4, 2) := by decide +kernel
theorem d_C_shardByte_26 : decode c_C_shardByte 26 = .ok (.aload_n 0, 1) := by decide +kernel
theorem d_C_shardByte_27 : decode c_C_shardByte 27 = .ok (.getfield 9, 3) := by decide +kernel
theorem d_C_shardByte_30 : decode c_C_shardByte 30 = .ok (.if_icmp .ge (40), 3) := by decide +kernel
theorem d_C_shardByte_33 : decode c_C_shardByte 33 = .ok (.iload_n 3, 1) := by decide +kernel
theorem d_C_shardByte_34 : decode c_C_shardByte 34 = .ok (.aload_n 0, 1) := by decide +kernel
theorem d_C_shardByte_35 : decode c_C_shardByte 35 = .ok (.getfield 28, 3) := by decide +kernel
theorem d_C_shardByte_38 : decode c_C_shardByte 38 = .ok (.iload_n 1, 1) := by decide +kernel
theorem d_C_shardByte_39 : decode c_C_shardByte 39 = .ok (.aload_n 0, 1) := by decide +kernel
theorem d_C_shardByte_40 : decode c_C_shardByte 40 = .ok (.getfield 9, 3) := by decide +kernel
theorem d_C_shardByte_43 : decode c_C_shardByte 43 = .ok (.imul, 1) := by decide +kernel
theorem d_C_shardByte_44 : decode c_C_shardByte 44 = .ok (.iload 4, 2) := by decide +kernel
theorem d_C_shardByte_46 : decode c_C_shardByte 46 = .ok (.iadd, 1) := by decide +kernel
theorem d_C_shardByte_47 : decode c_C_shardByte 47 = .ok (.iaload, 1) := by decide +kernel
theorem d_C_shardByte_48 : decode c_C_shardByte 48 = .ok (.aload_n 0, 1) := by decide +kernel
theorem d_C_shardByte_49 : decode c_C_shardByte 49 = .ok (.getfield 21, 3) := by decide +kernel
theorem d_C_shardByte_52 : decode c_C_shardByte 52 = .ok (.iload 4, 2) := by decide +kernel
theorem d_C_shardByte_54 : decode c_C_shardByte 54 = .ok (.iconst (4), 1) := by decide +kernel
theorem d_C_shardByte_55 : decode c_C_shardByte 55 = .ok (.imul, 1) := by decide +kernel
theorem d_C_shardByte_56 : decode c_C_shardByte 56 = .ok (.iload_n 2, 1) := by decide +kernel
theorem d_C_shardByte_57 : decode c_C_shardByte 57 = .ok (.iadd, 1) := by decide +kernel
theorem d_C_shardByte_58 : decode c_C_shardByte 58 = .ok (.iaload, 1) := by decide +kernel
theorem d_C_shardByte_59 : decode c_C_shardByte 59 = .ok (.invokestatic 39, 3) := by decide +kernel
theorem d_C_shardByte_62 : decode c_C_shardByte 62 = .ok (.ixor, 1) := by decide +kernel
theorem d_C_shardByte_63 : decode c_C_shardByte 63 = .ok (.istore_n 3, 1) := by decide +kernel
theorem d_C_shardByte_64 : decode c_C_shardByte 64 = .ok (.iinc 4 (1), 3) := by decide +kernel
theorem d_C_shardByte_67 : decode c_C_shardByte 67 = .ok (.goto (-43), 3) := by decide +kernel
theorem d_C_shardByte_70 : decode c_C_shardByte 70 = .ok (.iload_n 3, 1) := by decide +kernel
theorem d_C_shardByte_71 : decode c_C_shardByte 71 = .ok (.ireturn, 1) := by decide +kernel
theorem d_C_setEquation_0 : decode c_C_setEquation 0 = .ok (.aload_n 0, 1) := by decide +kernel
theorem d_C_setEquation_1 : decode c_C_setEquation 1 = .ok (.getfield 28, 3) := by decide +kernel
theorem d_C_setEquation_4 : decode c_C_setEquation 4 = .ok (.iload_n 2, 1) := by decide +kernel
theorem d_C_setEquation_5 : decode c_C_setEquation 5 = .ok (.aload_n 0, 1) := by decide +kernel
theorem d_C_setEquation_6 : decode c_C_setEquation 6 = .ok (.getfield 9, 3) := by decide +kernel
theorem d_C_setEquation_9 : decode c_C_setEquation 9 = .ok (.imul, 1) := by decide +kernel
theorem d_C_setEquation_10 : decode c_C_setEquation 10 = .ok (.aload_n 0, 1) := by decide +kernel
theorem d_C_setEquation_11 : decode c_C_setEquation 11 = .ok (.getfield 25, 3) := by decide +kernel
theorem d_C_setEquation_14 : decode c_C_setEquation 14 = .ok (.iload_n 1, 1) := by decide +kernel
theorem d_C_setEquation_15 : decode c_C_setEquation 15 = .ok (.aload_n 0, 1) := by decide +kernel
theorem d_C_setEquation_16 : decode c_C_setEquation 16 = .ok (.getfield 9, 3) := by decide +kernel
theorem d_C_setEquation_19 : decode c_C_setEquation 19 = .ok (.imul, 1) := by decide +kernel
theorem d_C_setEquation_20 : decode c_C_setEquation 20 = .ok (.aload_n 0, 1) := by decide +kernel
theorem d_C_setEquation_21 : decode c_C_setEquation 21 = .ok (.getfield 9, 3) := by decide +kernel
theorem d_C_setEquation_24 : decode c_C_setEquation 24 = .ok (.invokestatic 43, 3) := by decide +kernel
theorem d_C_setEquation_27 : decode c_C_setEquation 27 = .ok (.return_, 1) := by decide +kernel
theorem d_C_solve_0 : decode c_C_solve 0 = .ok (.iconst (0), 1) := by decide +kernel
theorem d_C_solve_1 : decode c_C_solve 1 = .ok (.istore_n 1, 1) := by decide +kernel
theorem d_C_solve_2 : decode c_C_solve 2 = .ok (.iload_n 1, 1) := by decide +kernel
theorem d_C_solve_3 : decode c_C_solve 3 = .ok (.aload_n 0, 1) := by decide +kernel
theorem d_C_solve_4 : decode c_C_solve 4 = .ok (.getfield 9, 3) := by decide +kernel
theorem d_C_solve_7 : decode c_C_solve 7 = .ok (.if_icmp .ge (76), 3) := by decide +kernel
theorem d_C_solve_10 : decode c_C_solve 10 = .ok (.aload_n 0, 1) := by decide +kernel
theorem d_C_solve_11 : decode c_C_solve 11 = .ok (.iload_n 1, 1) := by decide +kernel
theorem d_C_solve_12 : decode c_C_solve 12 = .ok (.aload_n 0, 1) := by decide +kernel
theorem d_C_solve_13 : decode c_C_solve 13 = .ok (.getfield 25, 3) := by decide +kernel
theorem d_C_solve_16 : decode c_C_solve 16 = .ok (.iload_n 1, 1) := by decide +kernel
theorem d_C_solve_17 : decode c_C_solve 17 = .ok (.aload_n 0, 1) := by decide +kernel
theorem d_C_solve_18 : decode c_C_solve 18 = .ok (.getfield 9, 3) := by decide +kernel
theorem d_C_solve_21 : decode c_C_solve 21 = .ok (.imul, 1) := by decide +kernel
theorem d_C_solve_22 : decode c_C_solve 22 = .ok (.iload_n 1, 1) := by decide +kernel
theorem d_C_solve_23 : decode c_C_solve 23 = .ok (.iadd, 1) := by decide +kernel
theorem d_C_solve_24 : decode c_C_solve 24 = .ok (.iaload, 1) := by decide +kernel
theorem d_C_solve_25 : decode c_C_solve 25 = .ok (.invokestatic 35, 3) := by decide +kernel
theorem d_C_solve_28 : decode c_C_solve 28 = .ok (.invokevirtual 49, 3) := by decide +kernel
theorem d_C_solve_31 : decode c_C_solve 31 = .ok (.iconst (0), 1) := by decide +kernel
theorem d_C_solve_32 : decode c_C_solve 32 = .ok (.istore_n 2, 1) := by decide +kernel
theorem d_C_solve_33 : decode c_C_solve 33 = .ok (.iload_n 2, 1) := by decide +kernel
theorem d_C_solve_34 : decode c_C_solve 34 = .ok (.aload_n 0, 1) := by decide +kernel
theorem d_C_solve_35 : decode c_C_solve 35 = .ok (.getfield 9, 3) := by decide +kernel
theorem d_C_solve_38 : decode c_C_solve 38 = .ok (.if_icmp .ge (39), 3) := by decide +kernel
theorem d_C_solve_41 : decode c_C_solve 41 = .ok (.aload_n 0, 1) := by decide +kernel
theorem d_C_solve_42 : decode c_C_solve 42 = .ok (.getfield 25, 3) := by decide +kernel
theorem d_C_solve_45 : decode c_C_solve 45 = .ok (.iload_n 2, 1) := by decide +kernel
theorem d_C_solve_46 : decode c_C_solve 46 = .ok (.aload_n 0, 1) := by decide +kernel
theorem d_C_solve_47 : decode c_C_solve 47 = .ok (.getfield 9, 3) := by decide +kernel
theorem d_C_solve_50 : decode c_C_solve 50 = .ok (.imul, 1) := by decide +kernel
theorem d_C_solve_51 : decode c_C_solve 51 = .ok (.iload_n 1, 1) := by decide +kernel
theorem d_C_solve_52 : decode c_C_solve 52 = .ok (.iadd, 1) := by decide +kernel
theorem d_C_solve_53 : decode c_C_solve 53 = .ok (.iaload, 1) := by decide +kernel
theorem d_C_solve_54 : decode c_C_solve 54 = .ok (.istore_n 3, 1) := by decide +kernel
theorem d_C_solve_55 : decode c_C_solve 55 = .ok (.iload_n 2, 1) := by decide +kernel
theorem d_C_solve_56 : decode c_C_solve 56 = .ok (.iload_n 1, 1) := by decide +kernel
theorem d_C_solve_57 : decode c_C_solve 57 = .ok (.if_icmp .eq (14), 3) := by decide +kernel
theorem d_C_solve_60 : decode c_C_solve 60 = .ok (.iload_n 3, 1) := by decide +kernel
theorem d_C_solve_61 : decode c_C_solve 61 = .ok (.ifCond .eq (10), 3) := by decide +kernel
theorem d_C_solve_64 : decode c_C_solve 64 = .ok (.aload_n 0, 1) := by decide +kernel
theorem d_C_solve_65 : decode c_C_solve 65 = .ok (.iload_n 2, 1) := by decide +kernel
theorem d_C_solve_66 : decode c_C_solve 66 = .ok (.iload_n 1, 1) := by decide +kernel
theorem d_C_solve_67 : decode c_C_solve 67 = .ok (.iload_n 3, 1) := by decide +kernel
theorem d_C_solve_68 : decode c_C_solve 68 = .ok (.invokevirtual 53, 3) := by decide +kernel
theorem d_C_solve_71 : decode c_C_solve 71 = .ok (.iinc 2 (1), 3) := by decide +kernel
theorem d_C_solve_74 : decode c_C_solve 74 = .ok (.goto (-41), 3) := by decide +kernel
theorem d_C_solve_77 : decode c_C_solve 77 = .ok (.iinc 1 (1), 3) := by decide +kernel
theorem d_C_solve_80 : decode c_C_solve 80 = .ok (.goto (-78), 3) := by decide +kernel
theorem d_C_solve_83 : decode c_C_solve 83 = .ok (.return_, 1) := by decide +kernel
theorem d_C_multiplyLine_0 : decode c_C_multiplyLine 0 = .ok (.iconst (0), 1) := by decide +kernel
theorem d_C_multiplyLine_1 : decode c_C_multiplyLine 1 = .ok (.istore_n 3, 1) := by decide +kernel
theorem d_C_multiplyLine_2 : decode c_C_multiplyLine 2 = .ok (.iload_n 3, 1) := by decide +kernel
theorem d_C_multiplyLine_3 : decode c_C_multiplyLine 3 = .ok (.aload_n 0, 1) := by decide +kernel
theorem d_C_multiplyLine_4 : decode c_C_multiplyLine 4 = .ok (.getfield 9, 3) := by decide +kernel
theorem d_C_multiplyLine_7 : decode c_C_multiplyLine 7 = .ok (.if_icmp .ge (37), 3) := by decide +kernel
theorem d_C_multiplyLine_10 : decode c_C_multiplyLine 10 = .ok (.iload_n 1, 1) := by decide +kernel
theorem d_C_multiplyLine_11 : decode c_C_multiplyLine 11 = .ok (.aload_n 0, 1) := by decide +kernel
theorem d_C_multiplyLine_12 : decode c_C_multiplyLine 12 = .ok (.getfield 9, 3) := by decide +kernel
theorem d_C_multiplyLine_15 : decode c_C_multiplyLine 15 = .ok (.imul, 1) := by decide +kernel
theorem d_C_multiplyLine_16 : decode c_C_multiplyLine 16 = .ok (.iload_n 3, 1) := by decide +kernel
theorem d_C_multiplyLine_17 : decode c_C_multiplyLine 17 = .ok (.iadd, 1) := by decide +kernel
theorem d_C_multiplyLine_18 : decode c_C_multiplyLine 18 = .ok (.istore 4, 2) := by decide +kernel
theorem d_C_multiplyLine_20 : decode c_C_multiplyLine 20 = .ok (.aload_n 0, 1) := by decide +kernel
theorem d_C_multiplyLine_21 : decode c_C_multiplyLine 21 = .ok (.getfield 25, 3) := by decide +kernel
theorem d_C_multiplyLine_24 : decode c_C_multiplyLine 24 = .ok (.iload 4, 2) := by decide +kernel
theorem d_C_multiplyLine_26 : decode c_C_multiplyLine 26 = .ok (.aload_n 0, 1) := by decide +kernel
theorem d_C_multiplyLine_27 : decode c_C_multiplyLine 27 = .ok (.getfield 25, 3) := by decide +kernel
theorem d_C_multiplyLine_30 : decode c_C_multiplyLine 30 = .ok (.iload 4, 2) := by decide +kernel
theorem d_C_multiplyLine_32 : decode c_C_multiplyLine 32 = .ok (.iaload, 1) := by decide +kernel
theorem d_C_multiplyLine_33 : decode c_C_multiplyLine 33 = .ok (.iload_n 2, 1) := by decide +kernel
theorem d_C_multiplyLine_34 : decode c_C_multiplyLine 34 = .ok (.invokestatic 39, 3) := by decide +kernel
theorem d_C_multiplyLine_37 : decode c_C_multiplyLine 37 = .ok (.iastore, 1) := by decide +kernel
theorem d_C_multiplyLine_38 : decode c_C_multiplyLine 38 = .ok (.iinc 3 (1), 3) := by decide +kernel
theorem d_C_multiplyLine_41 : decode c_C_multiplyLine 41 = .ok (.goto (-39), 3) := by decide +kernel
theorem d_C_multiplyLine_44 : decode c_C_multiplyLine 44 = .ok (.iconst (0), 1) := by decide +kernel
theorem d_C_multiplyLine_45 : decode c_C_multiplyLine 45 = .ok (.istore_n 3, 1) := by decide +kernel
theorem d_C_multiplyLine_46 : decode c_C_multiplyLine 46 = .ok (.iload_n 3, 1) := by decide +kernel
theorem d_C_multiplyLine_47 : decode c_C_multiplyLine 47 = .ok (.iconst (4), 1) := by decide +kernel
theorem d_C_multiplyLine_48 : decode c_C_multiplyLine 48 = .ok (.if_icmp .ge (34), 3) := by decide +kernel
theorem d_C_multiplyLine_51 : decode c_C_multiplyLine 51 = .ok (.iload_n 1, 1) := by decide +kernel
theorem d_C_multiplyLine_52 : decode c_C_multiplyLine 52 = .ok (.iconst (4), 1) := by decide +kernel
theorem d_C_multiplyLine_53 : decode c_C_multiplyLine 53 = .ok (.imul, 1) := by decide +kernel
theorem d_C_multiplyLine_54 : decode c_C_multiplyLine 54 = .ok (.iload_n 3, 1) := by decide +kernel
theorem d_C_multiplyLine_55 : decode c_C_multiplyLine 55 = .ok (.iadd, 1) := by decide +kernel
theorem d_C_multiplyLine_56 : decode c_C_multiplyLine 56 = .ok (.istore 4, 2) := by decide +kernel
theorem d_C_multiplyLine_58 : decode c_C_multiplyLine 58 = .ok (.aload_n 0, 1) := by decide +kernel
theorem d_C_multiplyLine_59 : decode c_C_multiplyLine 59 = .ok (.getfield 21, 3) := by decide +kernel
theorem d_C_multiplyLine_62 : decode c_C_multiplyLine 62 = .ok (.iload 4, 2) := by decide +kernel
theorem d_C_multiplyLine_64 : decode c_C_multiplyLine 64 = .ok (.aload_n 0, 1) := by decide +kernel
theorem d_C_multiplyLine_65 : decode c_C_multiplyLine 65 = .ok (.getfield 21, 3) := by decide +kernel
theorem d_C_multiplyLine_68 : decode c_C_multiplyLine 68 = .ok (.iload 4, 2) := by decide +kernel
theorem d_C_multiplyLine_70 : decode c_C_multiplyLine 70 = .ok (.iaload, 1) := by decide +kernel
theorem d_C_multiplyLine_71 : decode c_C_multiplyLine 71 = .ok (.iload_n 2, 1) := by decide +kernel
theorem d_C_multiplyLine_72 : decode c_C_multiplyLine 72 = .ok (.invokestatic 39, 3) := by decide +kernel
theorem d_C_multiplyLine_75 : decode c_C_multiplyLine 75 = .ok (.iastore, 1) := by decide +kernel
theorem d_C_multiplyLine_76 : decode c_C_multiplyLine 76 = .ok (.iinc 3 (1), 3) := by decide +kernel
theorem d_C_multiplyLine_79 : decode c_C_multiplyLine 79 = .ok (.goto (-33), 3) := by decide +kernel
theorem d_C_multiplyLine_82 : decode c_C_multiplyLine 82 = .ok (.return_, 1) := by decide +kernel
theorem d_C_addLine_0 : decode c_C_addLine 0 = .ok (.iconst (0), 1) := by decide +kernel
theorem d_C_addLine_1 : decode c_C_addLine 1 = .ok (.istore 4, 2) := by decide +kernel
theorem d_C_addLine_3 : decode c_C_addLine 3 = .ok (.iload 4, 2) := by decide +kernel
theorem d_C_addLine_5 : decode c_C_addLine 5 = .ok (.aload_n 0, 1) := by decide +kernel
theorem d_C_addLine_6 : decode c_C_addLine 6 = .ok (.getfield 9, 3) := by decide +kernel
theorem d_C_addLine_9 : decode c_C_addLine 9 = .ok (.if_icmp .ge (44), 3) := by decide +kernel
theorem d_C_addLine_12 : decode c_C_addLine 12 = .ok (.aload_n 0, 1) := by decide +kernel
theorem d_C_addLine_13 : decode c_C_addLine 13 = .ok (.getfield 25, 3) := by decide +kernel
theorem d_C_addLine_16 : decode c_C_addLine 16 = .ok (.iload_n 1, 1) := by decide +kernel
theorem d_C_addLine_17 : decode c_C_addLine 17 = .ok (.aload_n 0, 1) := by decide +kernel
theorem d_C_addLine_18 : decode c_C_addLine 18 = .ok (.getfield 9, 3) := by decide +kernel
theorem d_C_addLine_21 : decode c_C_addLine 21 = .ok (.imul, 1) := by decide +kernel
theorem d_C_addLine_22 : decode c_C_addLine 22 = .ok (.iload 4, 2) := by decide +kernel
theorem d_C_addLine_24 : decode c_C_addLine 24 = .ok (.iadd, 1) := by decide +kernel
theorem d_C_addLine_25 : decode c_C_addLine 25 = .ok (.dup2, 1) := by decide +kernel
theorem d_C_addLine_26 : decode c_C_addLine 26 = .ok (.iaload, 1) := by decide +kernel
theorem d_C_addLine_27 : decode c_C_addLine 27 = .ok (.aload_n 0, 1) := by decide +kernel
theorem d_C_addLine_28 : decode c_C_addLine 28 = .ok (.getfield 25, 3) := by decide +kernel
theorem d_C_addLine_31 : decode c_C_addLine 31 = .ok (.iload_n 2, 1) := by decide +kernel
theorem d_C_addLine_32 : decode c_C_addLine 32 = .ok (.aload_n 0, 1) := by decide +kernel
theorem d_C_addLine_33 : decode c_C_addLine 33 = .ok (.getfield 9, 3) := by decide +kernel
theorem d_C_addLine_36 : decode c_C_addLine 36 = .ok (.imul, 1) := by decide +kernel
theorem d_C_addLine_37 : decode c_C_addLine 37 = .ok (.iload 4, 2) := by decide +kernel
theorem d_C_addLine_39 : decode c_C_addLine 39 = .ok (.iadd, 1) := by decide +kernel
theorem d_C_addLine_40 : decode c_C_addLine 40 = .ok (.iaload, 1) := by decide +kernel
theorem d_C_addLine_41 : decode c_C_addLine 41 = .ok (.iload_n 3, 1) := by decide +kernel
theorem d_C_addLine_42 : decode c_C_addLine 42 = .ok (.invokestatic 39, 3) := by decide +kernel
theorem d_C_addLine_45 : decode c_C_addLine 45 = .ok (.ixor, 1) := by decide +kernel
theorem d_C_addLine_46 : decode c_C_addLine 46 = .ok (.iastore, 1) := by decide +kernel
theorem d_C_addLine_47 : decode c_C_addLine 47 = .ok (.iinc 4 (1), 3) := by decide +kernel
theorem d_C_addLine_50 : decode c_C_addLine 50 = .ok (.goto (-47), 3) := by decide +kernel
theorem d_C_addLine_53 : decode c_C_addLine 53 = .ok (.iconst (0), 1) := by decide +kernel
theorem d_C_addLine_54 : decode c_C_addLine 54 = .ok (.istore 4, 2) := by decide +kernel
theorem d_C_addLine_56 : decode c_C_addLine 56 = .ok (.iload 4, 2) := by decide +kernel
theorem d_C_addLine_58 : decode c_C_addLine 58 = .ok (.iconst (4), 1) := by decide +kernel
theorem d_C_addLine_59 : decode c_C_addLine 59 = .ok (.if_icmp .ge (38), 3) := by decide +kernel
theorem d_C_addLine_62 : decode c_C_addLine 62 = .ok (.aload_n 0, 1) := by decide +kernel
theorem d_C_addLine_63 : decode c_C_addLine 63 = .ok (.getfield 21, 3) := by decide +kernel
theorem d_C_addLine_66 : decode c_C_addLine 66 = .ok (.iload_n 1, 1) := by decide +kernel
theorem d_C_addLine_67 : decode c_C_addLine 67 = .ok (.iconst (4), 1) := by decide +kernel
theorem d_C_addLine_68 : decode c_C_addLine 68 = .ok (.imul, 1) := by decide +kernel
theorem d_C_addLine_69 : decode c_C_addLine 69 = .ok (.iload 4, 2) := by decide +kernel
theorem d_C_addLine_71 : decode c_C_addLine 71 = .ok (.iadd, 1) := by decide +kernel
theorem d_C_addLine_72 : decode c_C_addLine 72 = .ok (.dup2, 1) := by decide +kernel
theorem d_C_addLine_73 : decode c_C_addLine 73 = .ok (.iaload, 1) := by decide +kernel
theorem d_C_addLine_74 : decode c_C_addLine 74 = .ok (.aload_n 0, 1) := by decide +kernel
theorem d_C_addLine_75 : decode c_C_addLine 75 = .ok (.getfield 21, 3) := by decide +kernel
theorem d_C_addLine_78 : decode c_C_addLine 78 = .ok (.iload_n 2, 1) := by decide +kernel
theorem d_C_addLine_79 : decode c_C_addLine 79 = .ok (.iconst (4), 1) := by decide +kernel
theorem d_C_addLine_80 : decode c_C_addLine 80 = .ok (.imul, 1) := by decide +kernel
theorem d_C_addLine_81 : decode c_C_addLine 81 = .ok (.iload 4, 2) := by decide +kernel
theorem d_C_addLine_83 : decode c_C_addLine 83 = .ok (.iadd, 1) := by decide +kernel
theorem d_C_addLine_84 : decode c_C_addLine 84 = .ok (.iaload, 1) := by decide +kernel
theorem d_C_addLine_85 : decode c_C_addLine 85 = .ok (.iload_n 3, 1) := by decide +kernel
theorem d_C_addLine_86 : decode c_C_addLine 86 = .ok (.invokestatic 39, 3) := by decide +kernel
theorem d_C_addLine_89 : decode c_C_addLine 89 = .ok (.ixor, 1) := by decide +kernel
theorem d_C_addLine_90 : decode c_C_addLine 90 = .ok (.iastore, 1) := by decide +kernel
theorem d_C_addLine_91 : decode c_C_addLine 91 = .ok (.iinc 4 (1), 3) := by decide +kernel
theorem d_C_addLine_94 : decode c_C_addLine 94 = .ok (.goto (-38), 3) := by decide +kernel
theorem d_C_addLine_97 : decode c_C_addLine 97 = .ok (.return_, 1) := by decide +kernel
theorem d_D_init_0 : decode c_D_init 0 = .ok (.aload_n 0, 1) := by decide +kernel
theorem d_D_init_1 : decode c_D_init 1 = .ok (.invokespecial 3, 3) := by decide +kernel
theorem d_D_init_4 : decode c_D_init 4 = .ok (.aload_n 0, 1) := by decide +kernel
theorem d_D_init_5 : decode c_D_init 5 = .ok (.bipush (8), 2) := by decide +kernel
theorem d_D_init_7 : decode c_D_init 7 = .ok (.newarray .boolean, 2) := by decide +kernel
theorem d_D_init_9 : decode c_D_init 9 = .ok (.putfield 9, 3) := by decide +kernel
theorem d_D_init_12 : decode c_D_init 12 = .ok (.aload_n 0, 1) := by decide +kernel
theorem d_D_init_13 : decode c_D_init 13 = .ok (.bipush (8), 2) := by decide +kernel
theorem d_D_init_15 : decode c_D_init 15 = .ok (.newarray .int, 2) := by decide +kernel
theorem d_D_init_17 : decode c_D_init 17 = .ok (.putfield 15, 3) := by decide +kernel
theorem d_D_init_20 : decode c_D_init 20 = .ok (.aload_n 0, 1) := by decide +kernel
theorem d_D_init_21 : decode c_D_init 21 = .ok (.sipush (128), 3) := by decide +kernel
theorem d_D_init_24 : decode c_D_init 24 = .ok (.newarray .boolean, 2) := by decide +kernel
theorem d_D_init_26 : decode c_D_init 26 = .ok (.putfield 19, 3) := by decide +kernel
theorem d_D_init_29 : decode c_D_init 29 = .ok (.aload_n 0, 1) := by decide +kernel
theorem d_D_init_30 : decode c_D_init 30 = .ok (.sipush (512), 3) := by decide +kernel
theorem d_D_init_33 : decode c_D_init 33 = .ok (.newarray .int, 2) := by decide +kernel
theorem d_D_init_35 : decode c_D_init 35 = .ok (.putfield 22, 3) := by decide +kernel
theorem d_D_init_38 : decode c_D_init 38 = .ok (.iconst (0), 1) := by decide +kernel
theorem d_D_init_39 : decode c_D_init 39 = .ok (.istore_n 1, 1) := by decide +kernel
theorem d_D_init_40 : decode c_D_init 40 = .ok (.iload_n 1, 1) := by decide +kernel
theorem d_D_init_41 : decode c_D_init 41 = .ok (.bipush (8), 2) := by decide +kernel
theorem d_D_init_43 : decode c_D_init 43 = .ok (.if_icmp .ge (24), 3) := by decide +kernel
theorem d_D_init_46 : decode c_D_init 46 = .ok (.aload_n 0, 1) := by decide +kernel
theorem d_D_init_47 : decode c_D_init 47 = .ok (.getfield 9, 3) := by decide +kernel
theorem d_D_init_50 : decode c_D_init 50 = .ok (.iload_n 1, 1) := by decide +kernel
theorem d_D_init_51 : decode c_D_init 51 = .ok (.iconst (1), 1) := by decide +kernel
theorem d_D_init_52 : decode c_D_init 52 = .ok (.bastore, 1) := by decide +kernel
theorem d_D_init_53 : decode c_D_init 53 = .ok (.aload_n 0, 1) := by decide +kernel
theorem d_D_init_54 : decode c_D_init 54 = .ok (.getfield 15, 3) := by decide +kernel
theorem d_D_init_57 : decode c_D_init 57 = .ok (.iload_n 1, 1) := by decide +kernel
theorem d_D_init_58 : decode c_D_init 58 = .ok (.bipush (10), 2) := by decide +kernel
theorem d_D_init_60 : decode c_D_init 60 = .ok (.iastore, 1) := by decide +kernel
theorem d_D_init_61 : decode c_D_init 61 = .ok (.iinc 1 (1), 3) := by decide +kernel
theorem d_D_init_64 : decode c_D_init 64 = .ok (.goto (-24), 3) := by decide +kernel
theorem d_D_init_67 : decode c_D_init 67 = .ok (.return_, 1) := by decide +kernel
theorem d_D_isAlive_0 : decode c_D_isAlive 0 = .ok (.aload_n 0, 1) := by decide +kernel
theorem d_D_isAlive_1 : decode c_D_isAlive 1 = .ok (.getfield 9, 3) := by decide +kernel
theorem d_D_isAlive_4 : decode c_D_isAlive 4 = .ok (.iload_n 1, 1) := by decide +kernel
theorem d_D_isAlive_5 : decode c_D_isAlive 5 = .ok (.baload, 1) := by decide +kernel
theorem d_D_isAlive_6 : decode c_D_isAlive 6 = .ok (.ireturn, 1) := by decide +kernel
theorem d_D_countAlive_0 : decode c_D_countAlive 0 = .ok (.iconst (0), 1) := by decide +kernel
theorem d_D_countAlive_1 : decode c_D_countAlive 1 = .ok (.istore_n 1, 1) := by decide +kernel
theorem d_D_countAlive_2 : decode c_D_countAlive 2 = .ok (.iconst (0), 1) := by decide +kernel
theorem d_D_countAlive_3 : decode c_D_countAlive 3 = .ok (.istore_n 2, 1) := by decide +kernel
theorem d_D_countAlive_4 : decode c_D_countAlive 4 = .ok (.iload_n 2, 1) := by decide +kernel
theorem d_D_countAlive_5 : decode c_D_countAlive 5 = .ok (.bipush (8), 2) := by decide +kernel
theorem d_D_countAlive_7 : decode c_D_countAlive 7 = .ok (.if_icmp .ge (21), 3) := by decide +kernel
theorem d_D_countAlive_10 : decode c_D_countAlive 10 = .ok (.aload_n 0, 1) := by decide +kernel
theorem d_D_countAlive_11 : decode c_D_countAlive 11 = .ok (.getfield 9, 3) := by decide +kernel
theorem d_D_countAlive_14 : decode c_D_countAlive 14 = .ok (.iload_n 2, 1) := by decide +kernel
theorem d_D_countAlive_15 : decode c_D_countAlive 15 = .ok (.baload, 1) := by decide +kernel
theorem d_D_countAlive_16 : decode c_D_countAlive 16 = .ok (.ifCond .eq (6), 3) := by decide +kernel
theorem d_D_countAlive_19 : decode c_D_countAlive 19 = .ok (.iinc 1 (1), 3) := by decide +kernel
theorem d_D_countAlive_22 : decode c_D_countAlive 22 = .ok (.iinc 2 (1), 3) := by decide +kernel
theorem d_D_countAlive_25 : decode c_D_countAlive 25 = .ok (.goto (-21), 3) := by decide +kernel
theorem d_D_countAlive_28 : decode c_D_countAlive 28 = .ok (.iload_n 1, 1) := by decide +kernel
theorem d_D_countAlive_29 : decode c_D_countAlive 29 = .ok (.ireturn, 1) := by decide +kernel
theorem d_D_freeSlotsOf_0 : decode c_D_freeSlotsOf 0 = .ok (.aload_n 0, 1) := by decide +kernel
theorem d_D_freeSlotsOf_1 : decode c_D_freeSlotsOf 1 = .ok (.getfield 15, 3) := by decide +kernel
theorem d_D_freeSlotsOf_4 : decode c_D_freeSlotsOf 4 = .ok (.iload_n 1, 1) := by decide +kernel
theorem d_D_freeSlotsOf_5 : decode c_D_freeSlotsOf 5 = .ok (.iaload, 1) := by decide +kernel
theorem d_D_freeSlotsOf_6 : decode c_D_freeSlotsOf 6 = .ok (.ireturn, 1) := by decide +kernel
theorem d_D_stop_0 : decode c_D_stop 0 = .ok (.aload_n 0, 1) := by decide +kernel
theorem d_D_stop_1 : decode c_D_stop 1 = .ok (.getfield 9, 3) := by decide +kernel
theorem d_D_stop_4 : decode c_D_stop 4 = .ok (.iload_n 1, 1) := by decide +kernel
theorem d_D_stop_5 : decode c_D_stop 5 = .ok (.iconst (0), 1) := by decide +kernel
theorem d_D_stop_6 : decode c_D_stop 6 = .ok (.bastore, 1) := by decide +kernel
theorem d_D_stop_7 : decode c_D_stop 7 = .ok (.aload_n 0, 1) := by decide +kernel
theorem d_D_stop_8 : decode c_D_stop 8 = .ok (.getfield 15, 3) := by decide +kernel
theorem d_D_stop_11 : decode c_D_stop 11 = .ok (.iload_n 1, 1) := by decide +kernel
theorem d_D_stop_12 : decode c_D_stop 12 = .ok (.bipush (10), 2) := by decide +kernel
theorem d_D_stop_14 : decode c_D_stop 14 = .ok (.iastore, 1) := by decide +kernel
theorem d_D_stop_15 : decode c_D_stop 15 = .ok (.iconst (0), 1) := by decide +kernel
theorem d_D_stop_16 : decode c_D_stop 16 = .ok (.istore_n 2, 1) := by decide +kernel
theorem d_D_stop_17 : decode c_D_stop 17 = .ok (.iload_n 2, 1) := by decide +kernel
theorem d_D_stop_18 : decode c_D_stop 18 = .ok (.bipush (10), 2) := by decide +kernel
theorem d_D_stop_20 : decode c_D_stop 20 = .ok (.if_icmp .ge (20), 3) := by decide +kernel
theorem d_D_stop_23 : decode c_D_stop 23 = .ok (.aload_n 0, 1) := by decide +kernel
theorem d_D_stop_24 : decode c_D_stop 24 = .ok (.getfield 19, 3) := by decide +kernel
theorem d_D_stop_27 : decode c_D_stop 27 = .ok (.iload_n 1, 1) := by decide +kernel
theorem d_D_stop_28 : decode c_D_stop 28 = .ok (.iload_n 2, 1) := by decide +kernel
theorem d_D_stop_29 : decode c_D_stop 29 = .ok (.invokestatic 25, 3) := by decide +kernel
theorem d_D_stop_32 : decode c_D_stop 32 = .ok (.iconst (0), 1) := by decide +kernel
theorem d_D_stop_33 : decode c_D_stop 33 = .ok (.bastore, 1) := by decide +kernel
theorem d_D_stop_34 : decode c_D_stop 34 = .ok (.iinc 2 (1), 3) := by decide +kernel
theorem d_D_stop_37 : decode c_D_stop 37 = .ok (.goto (-20), 3) := by decide +kernel
theorem d_D_stop_40 : decode c_D_stop 40 = .ok (.return_, 1) := by decide +kernel
theorem d_D_start_0 : decode c_D_start 0 = .ok (.aload_n 0, 1) := by decide +kernel
theorem d_D_start_1 : decode c_D_start 1 = .ok (.getfield 9, 3) := by decide +kernel
theorem d_D_start_4 : decode c_D_start 4 = .ok (.iload_n 1, 1) := by decide +kernel
theorem d_D_start_5 : decode c_D_start 5 = .ok (.iconst (1), 1) := by decide +kernel
theorem d_D_start_6 : decode c_D_start 6 = .ok (.bastore, 1) := by decide +kernel
theorem d_D_start_7 : decode c_D_start 7 = .ok (.return_, 1) := by decide +kernel
theorem d_D_isTaken_0 : decode c_D_isTaken 0 = .ok (.aload_n 0, 1) := by decide +kernel
theorem d_D_isTaken_1 : decode c_D_isTaken 1 = .ok (.getfield 19, 3) := by decide +kernel
theorem d_D_isTaken_4 : decode c_D_isTaken 4 = .ok (.iload_n 1, 1) := by decide +kernel
theorem d_D_isTaken_5 : decode c_D_isTaken 5 = .ok (.baload, 1) := by decide +kernel
theorem d_D_isTaken_6 : decode c_D_isTaken 6 = .ok (.ireturn, 1) := by decide +kernel
theorem d_D_takeSlot_0 : decode c_D_takeSlot 0 = .ok (.iconst (0), 1) := by decide +kernel
theorem d_D_takeSlot_1 : decode c_D_takeSlot 1 = .ok (.istore_n 2, 1) := by decide +kernel
theorem d_D_takeSlot_2 : decode c_D_takeSlot 2 = .ok (.iload_n 2, 1) := by decide +kernel
theorem d_D_takeSlot_3 : decode c_D_takeSlot 3 = .ok (.bipush (10), 2) := by decide +kernel
theorem d_D_takeSlot_5 : decode c_D_takeSlot 5 = .ok (.if_icmp .ge (43), 3) := by decide +kernel
theorem d_D_takeSlot_8 : decode c_D_takeSlot 8 = .ok (.iload_n 1, 1) := by decide +kernel
theorem d_D_takeSlot_9 : decode c_D_takeSlot 9 = .ok (.iload_n 2, 1) := by decide +kernel
theorem d_D_takeSlot_10 : decode c_D_takeSlot 10 = .ok (.invokestatic 25, 3) := by decide +kernel
theorem d_D_takeSlot_13 : decode c_D_takeSlot 13 = .ok (.istore_n 3, 1) := by decide +kernel
theorem d_D_takeSlot_14 : decode c_D_takeSlot 14 = .ok (.aload_n 0, 1) := by decide +kernel
theorem d_D_takeSlot_15 : decode c_D_takeSlot 15 = .ok (.getfield 19, 3) := by decide +kernel
theorem d_D_takeSlot_18 : decode c_D_takeSlot 18 = .ok (.iload_n 3, 1) := by decide +kernel
theorem d_D_takeSlot_19 : decode c_D_takeSlot 19 = .ok (.baload, 1) := by decide +kernel
theorem d_D_takeSlot_20 : decode c_D_takeSlot 20 = .ok (.ifCond .ne (22), 3) := by decide +kernel
theorem d_D_takeSlot_23 : decode c_D_takeSlot 23 = .ok (.aload_n 0, 1) := by decide +kernel
theorem d_D_takeSlot_24 : decode c_D_takeSlot 24 = .ok (.getfield 19, 3) := by decide +kernel
theorem d_D_takeSlot_27 : decode c_D_takeSlot 27 = .ok (.iload_n 3, 1) := by decide +kernel
theorem d_D_takeSlot_28 : decode c_D_takeSlot 28 = .ok (.iconst (1), 1) := by decide +kernel
theorem d_D_takeSlot_29 : decode c_D_takeSlot 29 = .ok (.bastore, 1) := by decide +kernel
theorem d_D_takeSlot_30 : decode c_D_takeSlot 30 = .ok (.aload_n 0, 1) := by decide +kernel
theorem d_D_takeSlot_31 : decode c_D_takeSlot 31 = .ok (.getfield 15, 3) := by decide +kernel
theorem d_D_takeSlot_34 : decode c_D_takeSlot 34 = .ok (.iload_n 1, 1) := by decide +kernel
theorem d_D_takeSlot_35 : decode c_D_takeSlot 35 = .ok (.dup2, 1) := by decide +kernel
theorem d_D_takeSlot_36 : decode c_D_takeSlot 36 = .ok (.iaload, 1) := by decide +kernel
theorem d_D_takeSlot_37 : decode c_D_takeSlot 37 = .ok (.iconst (1), 1) := by decide +kernel
theorem d_D_takeSlot_38 : decode c_D_takeSlot 38 = .ok (.isub, 1) := by decide +kernel
theorem d_D_takeSlot_39 : decode c_D_takeSlot 39 = .ok (.iastore, 1) := by decide +kernel
theorem d_D_takeSlot_40 : decode c_D_takeSlot 40 = .ok (.iload_n 3, 1) := by decide +kernel
theorem d_D_takeSlot_41 : decode c_D_takeSlot 41 = .ok (.ireturn, 1) := by decide +kernel
theorem d_D_takeSlot_42 : decode c_D_takeSlot 42 = .ok (.iinc 2 (1), 3) := by decide +kernel
theorem d_D_takeSlot_45 : decode c_D_takeSlot 45 = .ok (.goto (-43), 3) := by decide +kernel
theorem d_D_takeSlot_48 : decode c_D_takeSlot 48 = .ok (.iconst (-1), 1) := by decide +kernel
theorem d_D_takeSlot_49 : decode c_D_takeSlot 49 = .ok (.ireturn, 1) := by decide +kernel
theorem d_D_releaseSlot_0 : decode c_D_releaseSlot 0 = .ok (.aload_n 0, 1) := by decide +kernel
theorem d_D_releaseSlot_1 : decode c_D_releaseSlot 1 = .ok (.getfield 19, 3) := by decide +kernel
theorem d_D_releaseSlot_4 : decode c_D_releaseSlot 4 = .ok (.iload_n 1, 1) := by decide +kernel
theorem d_D_releaseSlot_5 : decode c_D_releaseSlot 5 = .ok (.iconst (0), 1) := by decide +kernel
theorem d_D_releaseSlot_6 : decode c_D_releaseSlot 6 = .ok (.bastore, 1) := by decide +kernel
theorem d_D_releaseSlot_7 : decode c_D_releaseSlot 7 = .ok (.aload_n 0, 1) := by decide +kernel
theorem d_D_releaseSlot_8 : decode c_D_releaseSlot 8 = .ok (.getfield 15, 3) := by decide +kernel
theorem d_D_releaseSlot_11 : decode c_D_releaseSlot 11 = .ok (.iload_n 1, 1) := by decide +kernel
theorem d_D_releaseSlot_12 : decode c_D_releaseSlot 12 = .ok (.bipush (16), 2) := by decide +kernel
theorem d_D_releaseSlot_14 : decode c_D_releaseSlot 14 = .ok (.idiv, 1) := by decide +kernel
theorem d_D_releaseSlot_15 : decode c_D_releaseSlot 15 = .ok (.dup2, 1) := by decide +kernel
theorem d_D_releaseSlot_16 : decode c_D_releaseSlot 16 = .ok (.iaload, 1) := by decide +kernel
theorem d_D_releaseSlot_17 : decode c_D_releaseSlot 17 = .ok (.iconst (1), 1) := by decide +kernel
theorem d_D_releaseSlot_18 : decode c_D_releaseSlot 18 = .ok (.iadd, 1) := by decide +kernel
theorem d_D_releaseSlot_19 : decode c_D_releaseSlot 19 = .ok (.iastore, 1) := by decide +kernel
theorem d_D_releaseSlot_20 : decode c_D_releaseSlot 20 = .ok (.return_, 1) := by decide +kernel
theorem d_D_byteAt_0 : decode c_D_byteAt 0 = .ok (.aload_n 0, 1) := by decide +kernel
theorem d_D_byteAt_1 : decode c_D_byteAt 1 = .ok (.getfield 22, 3) := by decide +kernel
theorem d_D_byteAt_4 : decode c_D_byteAt 4 = .ok (.iload_n 1, 1) := by decide +kernel
theorem d_D_byteAt_5 : decode c_D_byteAt 5 = .ok (.iconst (4), 1) := by decide +kernel
theorem d_D_byteAt_6 : decode c_D_byteAt 6 = .ok (.imul, 1) := by decide +kernel
theorem d_D_byteAt_7 : decode c_D_byteAt 7 = .ok (.iload_n 2, 1) := by decide +kernel
theorem d_D_byteAt_8 : decode c_D_byteAt 8 = .ok (.iadd, 1) := by decide +kernel
theorem d_D_byteAt_9 : decode c_D_byteAt 9 = .ok (.iaload, 1) := by decide +kernel
theorem d_D_byteAt_10 : decode c_D_byteAt 10 = .ok (.ireturn, 1) := by decide +kernel
theorem d_D_setByte_0 : decode c_D_setByte 0 = .ok (.aload_n 0, 1) := by decide +kernel
theorem d_D_setByte_1 : decode c_D_setByte 1 = .ok (.getfield 22, 3) := by decide +kernel
theorem d_D_setByte_4 : decode c_D_setByte 4 = .ok (.iload_n 1, 1) := by decide +kernel
theorem d_D_setByte_5 : decode c_D_setByte 5 = .ok (.iconst (4), 1) := by decide +kernel
theorem d_D_setByte_6 : decode c_D_setByte 6 = .ok (.imul, 1) := by decide +kernel
theorem d_D_setByte_7 : decode c_D_setByte 7 = .ok (.iload_n 2, 1) := by decide +kernel
theorem d_D_setByte_8 : decode c_D_setByte 8 = .ok (.iadd, 1) := by decide +kernel
theorem d_D_setByte_9 : decode c_D_setByte 9 = .ok (.iload_n 3, 1) := by decide +kernel
theorem d_D_setByte_10 : decode c_D_setByte 10 = .ok (.iastore, 1) := by decide +kernel
theorem d_D_setByte_11 : decode c_D_setByte 11 = .ok (.return_, 1) := by decide +kernel
theorem d_L_cell_0 : decode c_L_cell 0 = .ok (.iload_n 1, 1) := by decide +kernel
theorem d_L_cell_1 : decode c_L_cell 1 = .ok (.aload_n 0, 1) := by decide +kernel
theorem d_L_cell_2 : decode c_L_cell 2 = .ok (.arraylength, 1) := by decide +kernel
theorem d_L_cell_3 : decode c_L_cell 3 = .ok (.if_icmp .ge (9), 3) := by decide +kernel
theorem d_L_cell_6 : decode c_L_cell 6 = .ok (.aload_n 0, 1) := by decide +kernel
theorem d_L_cell_7 : decode c_L_cell 7 = .ok (.iload_n 1, 1) := by decide +kernel
theorem d_L_cell_8 : decode c_L_cell 8 = .ok (.iaload, 1) := by decide +kernel
theorem d_L_cell_9 : decode c_L_cell 9 = .ok (.goto (4), 3) := by decide +kernel
theorem d_L_cell_12 : decode c_L_cell 12 = .ok (.iconst (0), 1) := by decide +kernel
theorem d_L_cell_13 : decode c_L_cell 13 = .ok (.ireturn, 1) := by decide +kernel
theorem d_L_store_0 : decode c_L_store 0 = .ok (.aload_n 2, 1) := by decide +kernel
theorem d_L_store_1 : decode c_L_store 1 = .ok (.iconst (0), 1) := by decide +kernel
theorem d_L_store_2 : decode c_L_store 2 = .ok (.aload_n 0, 1) := by decide +kernel
theorem d_L_store_3 : decode c_L_store 3 = .ok (.iload_n 1, 1) := by decide +kernel
theorem d_L_store_4 : decode c_L_store 4 = .ok (.invokevirtual 7, 3) := by decide +kernel
theorem d_L_store_7 : decode c_L_store 7 = .ok (.i2l, 1) := by decide +kernel
theorem d_L_store_8 : decode c_L_store 8 = .ok (.lastore, 1) := by decide +kernel
theorem d_L_store_9 : decode c_L_store 9 = .ok (.goto (9), 3) := by decide +kernel
theorem d_L_store_12 : decode c_L_store 12 = .ok (.astore_n 3, 1) := by decide +kernel
theorem d_L_store_13 : decode c_L_store 13 = .ok (.iconst (1), 1) := by decide +kernel
theorem d_L_store_14 : decode c_L_store 14 = .ok (.ireturn, 1) := by decide +kernel
theorem d_L_store_15 : decode c_L_store 15 = .ok (.astore_n 3, 1) := by decide +kernel
theorem d_L_store_16 : decode c_L_store 16 = .ok (.iconst (2), 1) := by decide +kernel
theorem d_L_store_17 : decode c_L_store 17 = .ok (.ireturn, 1) := by decide +kernel
theorem d_L_store_18 : decode c_L_store 18 = .ok (.iconst (0), 1) := by decide +kernel
theorem d_L_store_19 : decode c_L_store 19 = .ok (.ireturn, 1) := by decide +kernel
theorem d_L_drop_0 : decode c_L_drop 0 = .ok (.aload_n 2, 1) := by decide +kernel
theorem d_L_drop_1 : decode c_L_drop 1 = .ok (.iconst (0), 1) := by decide +kernel
theorem d_L_drop_2 : decode c_L_drop 2 = .ok (.aload_n 0, 1) := by decide +kernel
theorem d_L_drop_3 : decode c_L_drop 3 = .ok (.iload_n 1, 1) := by decide +kernel
theorem d_L_drop_4 : decode c_L_drop 4 = .ok (.invokevirtual 17, 3) := by decide +kernel
theorem d_L_drop_7 : decode c_L_drop 7 = .ok (.i2l, 1) := by decide +kernel
theorem d_L_drop_8 : decode c_L_drop 8 = .ok (.lastore, 1) := by decide +kernel
theorem d_L_drop_9 : decode c_L_drop 9 = .ok (.goto (6), 3) := by decide +kernel
theorem d_L_drop_12 : decode c_L_drop 12 = .ok (.astore_n 3, 1) := by decide +kernel
theorem d_L_drop_13 : decode c_L_drop 13 = .ok (.iconst (1), 1) := by decide +kernel
theorem d_L_drop_14 : decode c_L_drop 14 = .ok (.ireturn, 1) := by decide +kernel
theorem d_L_drop_15 : decode c_L_drop 15 = .ok (.iconst (0), 1) := by decide +kernel
theorem d_L_drop_16 : decode c_L_drop 16 = .ok (.ireturn, 1) := by decide +kernel
theorem d_L_get_0 : decode c_L_get 0 = .ok (.aload_n 2, 1) := by decide +kernel
theorem d_L_get_1 : decode c_L_get 1 = .ok (.iconst (0), 1) := by decide +kernel
theorem d_L_get_2 : decode c_L_get 2 = .ok (.aload_n 0, 1) := by decide +kernel
theorem d_L_get_3 : decode c_L_get 3 = .ok (.iload_n 1, 1) := by decide +kernel
theorem d_L_get_4 : decode c_L_get 4 = .ok (.invokevirtual 22, 3) := by decide +kernel
theorem d_L_get_7 : decode c_L_get 7 = .ok (.i2l, 1) := by decide +kernel
theorem d_L_get_8 : decode c_L_get 8 = .ok (.lastore, 1) := by decide +kernel
theorem d_L_get_9 : decode c_L_get 9 = .ok (.goto (9), 3) := by decide +kernel
theorem d_L_get_12 : decode c_L_get 12 = .ok (.astore_n 3, 1) := by decide +kernel
theorem d_L_get_13 : decode c_L_get 13 = .ok (.iconst (1), 1) := by decide +kernel
theorem d_L_get_14 : decode c_L_get 14 = .ok (.ireturn, 1) := by decide +kernel
theorem d_L_get_15 : decode c_L_get 15 = .ok (.astore_n 3, 1) := by decide +kernel
theorem d_L_get_16 : decode c_L_get 16 = .ok (.iconst (2), 1) := by decide +kernel
theorem d_L_get_17 : decode c_L_get 17 = .ok (.ireturn, 1) := by decide +kernel
theorem d_L_get_18 : decode c_L_get 18 = .ok (.iconst (0), 1) := by decide +kernel
theorem d_L_get_19 : decode c_L_get 19 = .ok (.ireturn, 1) := by decide +kernel
theorem d_L_at_0 : decode c_L_at 0 = .ok (.aload_n 2, 1) := by decide +kernel
theorem d_L_at_1 : decode c_L_at 1 = .ok (.iconst (0), 1) := by decide +kernel
theorem d_L_at_2 : decode c_L_at 2 = .ok (.aload_n 0, 1) := by decide +kernel
theorem d_L_at_3 : decode c_L_at 3 = .ok (.iload_n 1, 1) := by decide +kernel
theorem d_L_at_4 : decode c_L_at 4 = .ok (.invokevirtual 25, 3) := by decide +kernel
theorem d_L_at_7 : decode c_L_at 7 = .ok (.i2l, 1) := by decide +kernel
theorem d_L_at_8 : decode c_L_at 8 = .ok (.lastore, 1) := by decide +kernel
theorem d_L_at_9 : decode c_L_at 9 = .ok (.goto (6), 3) := by decide +kernel
theorem d_L_at_12 : decode c_L_at 12 = .ok (.astore_n 3, 1) := by decide +kernel
theorem d_L_at_13 : decode c_L_at 13 = .ok (.iconst (1), 1) := by decide +kernel
theorem d_L_at_14 : decode c_L_at 14 = .ok (.ireturn, 1) := by decide +kernel
theorem d_L_at_15 : decode c_L_at 15 = .ok (.iconst (0), 1) := by decide +kernel
theorem d_L_at_16 : decode c_L_at 16 = .ok (.ireturn, 1) := by decide +kernel
theorem d_L_fail_0 : decode c_L_fail 0 = .ok (.aload_n 2, 1) := by decide +kernel
theorem d_L_fail_1 : decode c_L_fail 1 = .ok (.iconst (0), 1) := by decide +kernel
theorem d_L_fail_2 : decode c_L_fail 2 = .ok (.aload_n 0, 1) := by decide +kernel
theorem d_L_fail_3 : decode c_L_fail 3 = .ok (.iload_n 1, 1) := by decide +kernel
theorem d_L_fail_4 : decode c_L_fail 4 = .ok (.invokevirtual 30, 3) := by decide +kernel
theorem d_L_fail_7 : decode c_L_fail 7 = .ok (.i2l, 1) := by decide +kernel
theorem d_L_fail_8 : decode c_L_fail 8 = .ok (.lastore, 1) := by decide +kernel
theorem d_L_fail_9 : decode c_L_fail 9 = .ok (.goto (9), 3) := by decide +kernel
theorem d_L_fail_12 : decode c_L_fail 12 = .ok (.astore_n 3, 1) := by decide +kernel
theorem d_L_fail_13 : decode c_L_fail 13 = .ok (.iconst (1), 1) := by decide +kernel
theorem d_L_fail_14 : decode c_L_fail 14 = .ok (.ireturn, 1) := by decide +kernel
theorem d_L_fail_15 : decode c_L_fail 15 = .ok (.astore_n 3, 1) := by decide +kernel
theorem d_L_fail_16 : decode c_L_fail 16 = .ok (.iconst (2), 1) := by decide +kernel
theorem d_L_fail_17 : decode c_L_fail 17 = .ok (.ireturn, 1) := by decide +kernel
theorem d_L_fail_18 : decode c_L_fail 18 = .ok (.iconst (0), 1) := by decide +kernel
theorem d_L_fail_19 : decode c_L_fail 19 = .ok (.ireturn, 1) := by decide +kernel
theorem d_L_renew_0 : decode c_L_renew 0 = .ok (.aload_n 2, 1) := by decide +kernel
theorem d_L_renew_1 : decode c_L_renew 1 = .ok (.iconst (0), 1) := by decide +kernel
theorem d_L_renew_2 : decode c_L_renew 2 = .ok (.aload_n 0, 1) := by decide +kernel
theorem d_L_renew_3 : decode c_L_renew 3 = .ok (.iload_n 1, 1) := by decide +kernel
theorem d_L_renew_4 : decode c_L_renew 4 = .ok (.invokevirtual 33, 3) := by decide +kernel
theorem d_L_renew_7 : decode c_L_renew 7 = .ok (.i2l, 1) := by decide +kernel
theorem d_L_renew_8 : decode c_L_renew 8 = .ok (.lastore, 1) := by decide +kernel
theorem d_L_renew_9 : decode c_L_renew 9 = .ok (.goto (9), 3) := by decide +kernel
theorem d_L_renew_12 : decode c_L_renew 12 = .ok (.astore_n 3, 1) := by decide +kernel
theorem d_L_renew_13 : decode c_L_renew 13 = .ok (.iconst (1), 1) := by decide +kernel
theorem d_L_renew_14 : decode c_L_renew 14 = .ok (.ireturn, 1) := by decide +kernel
theorem d_L_renew_15 : decode c_L_renew 15 = .ok (.astore_n 3, 1) := by decide +kernel
theorem d_L_renew_16 : decode c_L_renew 16 = .ok (.iconst (2), 1) := by decide +kernel
theorem d_L_renew_17 : decode c_L_renew 17 = .ok (.ireturn, 1) := by decide +kernel
theorem d_L_renew_18 : decode c_L_renew 18 = .ok (.iconst (0), 1) := by decide +kernel
theorem d_L_renew_19 : decode c_L_renew 19 = .ok (.ireturn, 1) := by decide +kernel
theorem d_L_check_0 : decode c_L_check 0 = .ok (.aload_n 2, 1) := by decide +kernel
theorem d_L_check_1 : decode c_L_check 1 = .ok (.iconst (0), 1) := by decide +kernel
theorem d_L_check_2 : decode c_L_check 2 = .ok (.aload_n 0, 1) := by decide +kernel
theorem d_L_check_3 : decode c_L_check 3 = .ok (.iload_n 1, 1) := by decide +kernel
theorem d_L_check_4 : decode c_L_check 4 = .ok (.invokevirtual 36, 3) := by decide +kernel
theorem d_L_check_7 : decode c_L_check 7 = .ok (.i2l, 1) := by decide +kernel
theorem d_L_check_8 : decode c_L_check 8 = .ok (.lastore, 1) := by decide +kernel
theorem d_L_check_9 : decode c_L_check 9 = .ok (.goto (6), 3) := by decide +kernel
theorem d_L_check_12 : decode c_L_check 12 = .ok (.astore_n 3, 1) := by decide +kernel
theorem d_L_check_13 : decode c_L_check 13 = .ok (.iconst (1), 1) := by decide +kernel
theorem d_L_check_14 : decode c_L_check 14 = .ok (.ireturn, 1) := by decide +kernel
theorem d_L_check_15 : decode c_L_check 15 = .ok (.iconst (0), 1) := by decide +kernel
theorem d_L_check_16 : decode c_L_check 16 = .ok (.ireturn, 1) := by decide +kernel
theorem d_L_harm_0 : decode c_L_harm 0 = .ok (.aload 5, 2) := by decide +kernel
theorem d_L_harm_2 : decode c_L_harm 2 = .ok (.iconst (0), 1) := by decide +kernel
theorem d_L_harm_3 : decode c_L_harm 3 = .ok (.aload_n 0, 1) := by decide +kernel
theorem d_L_harm_4 : decode c_L_harm 4 = .ok (.iload_n 1, 1) := by decide +kernel
theorem d_L_harm_5 : decode c_L_harm 5 = .ok (.iload_n 2, 1) := by decide +kernel
theorem d_L_harm_6 : decode c_L_harm 6 = .ok (.iload_n 3, 1) := by decide +kernel
theorem d_L_harm_7 : decode c_L_harm 7 = .ok (.iload 4, 2) := by decide +kernel
theorem d_L_harm_9 : decode c_L_harm 9 = .ok (.invokevirtual 39, 3) := by decide +kernel
theorem d_L_harm_12 : decode c_L_harm 12 = .ok (.i2l, 1) := by decide +kernel
theorem d_L_harm_13 : decode c_L_harm 13 = .ok (.lastore, 1) := by decide +kernel
theorem d_L_harm_14 : decode c_L_harm 14 = .ok (.goto (11), 3) := by decide +kernel
theorem d_L_harm_17 : decode c_L_harm 17 = .ok (.astore 6, 2) := by decide +kernel
theorem d_L_harm_19 : decode c_L_harm 19 = .ok (.iconst (1), 1) := by decide +kernel
theorem d_L_harm_20 : decode c_L_harm 20 = .ok (.ireturn, 1) := by decide +kernel
theorem d_L_harm_21 : decode c_L_harm 21 = .ok (.astore 6, 2) := by decide +kernel
theorem d_L_harm_23 : decode c_L_harm 23 = .ok (.iconst (2), 1) := by decide +kernel
theorem d_L_harm_24 : decode c_L_harm 24 = .ok (.ireturn, 1) := by decide +kernel
theorem d_L_harm_25 : decode c_L_harm 25 = .ok (.iconst (0), 1) := by decide +kernel
theorem d_L_harm_26 : decode c_L_harm 26 = .ok (.ireturn, 1) := by decide +kernel
theorem d_L_stored_0 : decode c_L_stored 0 = .ok (.aload 4, 2) := by decide +kernel
theorem d_L_stored_2 : decode c_L_stored 2 = .ok (.iconst (0), 1) := by decide +kernel
theorem d_L_stored_3 : decode c_L_stored 3 = .ok (.aload_n 0, 1) := by decide +kernel
theorem d_L_stored_4 : decode c_L_stored 4 = .ok (.iload_n 1, 1) := by decide +kernel
theorem d_L_stored_5 : decode c_L_stored 5 = .ok (.iload_n 2, 1) := by decide +kernel
theorem d_L_stored_6 : decode c_L_stored 6 = .ok (.iload_n 3, 1) := by decide +kernel
theorem d_L_stored_7 : decode c_L_stored 7 = .ok (.invokevirtual 43, 3) := by decide +kernel
theorem d_L_stored_10 : decode c_L_stored 10 = .ok (.i2l, 1) := by decide +kernel
theorem d_L_stored_11 : decode c_L_stored 11 = .ok (.lastore, 1) := by decide +kernel
theorem d_L_stored_12 : decode c_L_stored 12 = .ok (.goto (11), 3) := by decide +kernel
theorem d_L_stored_15 : decode c_L_stored 15 = .ok (.astore 5, 2) := by decide +kernel
theorem d_L_stored_17 : decode c_L_stored 17 = .ok (.iconst (1), 1) := by decide +kernel
theorem d_L_stored_18 : decode c_L_stored 18 = .ok (.ireturn, 1) := by decide +kernel
theorem d_L_stored_19 : decode c_L_stored 19 = .ok (.astore 5, 2) := by decide +kernel
theorem d_L_stored_21 : decode c_L_stored 21 = .ok (.iconst (2), 1) := by decide +kernel
theorem d_L_stored_22 : decode c_L_stored 22 = .ok (.ireturn, 1) := by decide +kernel
theorem d_L_stored_23 : decode c_L_stored 23 = .ok (.iconst (0), 1) := by decide +kernel
theorem d_L_stored_24 : decode c_L_stored 24 = .ok (.ireturn, 1) := by decide +kernel
theorem d_L_where_0 : decode c_L_where 0 = .ok (.aload 4, 2) := by decide +kernel
theorem d_L_where_2 : decode c_L_where 2 = .ok (.iconst (0), 1) := by decide +kernel
theorem d_L_where_3 : decode c_L_where 3 = .ok (.aload_n 0, 1) := by decide +kernel
theorem d_L_where_4 : decode c_L_where 4 = .ok (.iload_n 1, 1) := by decide +kernel
theorem d_L_where_5 : decode c_L_where 5 = .ok (.iload_n 2, 1) := by decide +kernel
theorem d_L_where_6 : decode c_L_where 6 = .ok (.iload_n 3, 1) := by decide +kernel
theorem d_L_where_7 : decode c_L_where 7 = .ok (.invokevirtual 47, 3) := by decide +kernel
theorem d_L_where_10 : decode c_L_where 10 = .ok (.i2l, 1) := by decide +kernel
theorem d_L_where_11 : decode c_L_where 11 = .ok (.lastore, 1) := by decide +kernel
theorem d_L_where_12 : decode c_L_where 12 = .ok (.goto (11), 3) := by decide +kernel
theorem d_L_where_15 : decode c_L_where 15 = .ok (.astore 5, 2) := by decide +kernel
theorem d_L_where_17 : decode c_L_where 17 = .ok (.iconst (1), 1) := by decide +kernel
theorem d_L_where_18 : decode c_L_where 18 = .ok (.ireturn, 1) := by decide +kernel
theorem d_L_where_19 : decode c_L_where 19 = .ok (.astore 5, 2) := by decide +kernel
theorem d_L_where_21 : decode c_L_where 21 = .ok (.iconst (2), 1) := by decide +kernel
theorem d_L_where_22 : decode c_L_where 22 = .ok (.ireturn, 1) := by decide +kernel
theorem d_L_where_23 : decode c_L_where 23 = .ok (.iconst (0), 1) := by decide +kernel
theorem d_L_where_24 : decode c_L_where 24 = .ok (.ireturn, 1) := by decide +kernel
theorem d_L_product_0 : decode c_L_product 0 = .ok (.aload_n 3, 1) := by decide +kernel
theorem d_L_product_1 : decode c_L_product 1 = .ok (.iconst (0), 1) := by decide +kernel
theorem d_L_product_2 : decode c_L_product 2 = .ok (.aload_n 0, 1) := by decide +kernel
theorem d_L_product_3 : decode c_L_product 3 = .ok (.iload_n 1, 1) := by decide +kernel
theorem d_L_product_4 : decode c_L_product 4 = .ok (.iload_n 2, 1) := by decide +kernel
theorem d_L_product_5 : decode c_L_product 5 = .ok (.invokevirtual 50, 3) := by decide +kernel
theorem d_L_product_8 : decode c_L_product 8 = .ok (.i2l, 1) := by decide +kernel
theorem d_L_product_9 : decode c_L_product 9 = .ok (.lastore, 1) := by decide +kernel
theorem d_L_product_10 : decode c_L_product 10 = .ok (.goto (11), 3) := by decide +kernel
theorem d_L_product_13 : decode c_L_product 13 = .ok (.astore 4, 2) := by decide +kernel
theorem d_L_product_15 : decode c_L_product 15 = .ok (.iconst (1), 1) := by decide +kernel
theorem d_L_product_16 : decode c_L_product 16 = .ok (.ireturn, 1) := by decide +kernel
theorem d_L_product_17 : decode c_L_product 17 = .ok (.astore 4, 2) := by decide +kernel
theorem d_L_product_19 : decode c_L_product 19 = .ok (.iconst (2), 1) := by decide +kernel
theorem d_L_product_20 : decode c_L_product 20 = .ok (.ireturn, 1) := by decide +kernel
theorem d_L_product_21 : decode c_L_product 21 = .ok (.iconst (0), 1) := by decide +kernel
theorem d_L_product_22 : decode c_L_product 22 = .ok (.ireturn, 1) := by decide +kernel
theorem d_A_fill_0 : decode c_A_fill 0 = .ok (.iconst (0), 1) := by decide +kernel
theorem d_A_fill_1 : decode c_A_fill 1 = .ok (.istore_n 2, 1) := by decide +kernel
theorem d_A_fill_2 : decode c_A_fill 2 = .ok (.aload_n 0, 1) := by decide +kernel
theorem d_A_fill_3 : decode c_A_fill 3 = .ok (.arraylength, 1) := by decide +kernel
theorem d_A_fill_4 : decode c_A_fill 4 = .ok (.istore_n 3, 1) := by decide +kernel
theorem d_A_fill_5 : decode c_A_fill 5 = .ok (.iload_n 2, 1) := by decide +kernel
theorem d_A_fill_6 : decode c_A_fill 6 = .ok (.iload_n 3, 1) := by decide +kernel
theorem d_A_fill_7 : decode c_A_fill 7 = .ok (.if_icmp .ge (13), 3) := by decide +kernel
theorem d_A_fill_10 : decode c_A_fill 10 = .ok (.aload_n 0, 1) := by decide +kernel
theorem d_A_fill_11 : decode c_A_fill 11 = .ok (.iload_n 2, 1) := by decide +kernel
theorem d_A_fill_12 : decode c_A_fill 12 = .ok (.iload_n 1, 1) := by decide +kernel
theorem d_A_fill_13 : decode c_A_fill 13 = .ok (.iastore, 1) := by decide +kernel
theorem d_A_fill_14 : decode c_A_fill 14 = .ok (.iinc 2 (1), 3) := by decide +kernel
theorem d_A_fill_17 : decode c_A_fill 17 = .ok (.goto (-12), 3) := by decide +kernel
theorem d_A_fill_20 : decode c_A_fill 20 = .ok (.return_, 1) := by decide +kernel
end
section
/-! The machine over places: a world is a list of cells, a reference is a place in it. -/
def pv (ad : Nat → Nat) : Value → Value
  | .ref k => .ref (ad k)
  | v => v
def pe (ad cA : Nat → Nat) : va_E → va_E
  | .inl x => .inl (cA x.1, x.2)
  | .inr o => .inr (o.1, o.2.map (pv ad))
def pw (ad cA : Nat → Nat) (M : List va_E) : va_W := M.mapIdx (fun i e => (ad i, pe ad cA e))
theorem pw_at {ad cA : Nat → Nat} {M : List va_E} {k : Nat} {e : va_E} (h : M[k]? = some e) : (pw ad cA M)[k]? = some (ad k, pe ad cA e) := by
  simp [pw, List.getElem?_mapIdx, h]
theorem pw_len {ad cA : Nat → Nat} {M : List va_E} : (pw ad cA M).length = M.length := by simp [pw]
theorem pw_set {ad cA : Nat → Nat} {M : List va_E} {k : Nat} {e : va_E} : (pw ad cA M).set k (ad k, pe ad cA e) = pw ad cA (M.set k e) := by
  apply List.ext_getElem?
  intro i
  by_cases hi : k = i
  · subst hi
    by_cases hl : k < M.length
    · simp [pw, List.getElem?_mapIdx, List.getElem?_set, hl]
    · simp [pw, List.getElem?_mapIdx, List.getElem?_set, hl]
  · simp [pw, List.getElem?_mapIdx, List.getElem?_set, hi]
/-- a value whose reference lies below n -/
def pok (n : Nat) : Value → Bool
  | .ref k => decide (k < n)
  | _ => true
def pokE (n : Nat) : va_E → Bool
  | .inl _ => true
  | .inr o => o.2.all (pok n)
theorem pv_eq {ad ad' : Nat → Nat} {n : Nat} (h : ∀ i, i < n → ad' i = ad i) {v : Value} (hv : pok n v = true) : pv ad' v = pv ad v := by
  cases v <;> first | rfl | (simp [pok] at hv; simp [pv, h _ hv])
theorem pv_eqL {ad ad' : Nat → Nat} {n : Nat} (h : ∀ i, i < n → ad' i = ad i) {vs : List Value} (hv : vs.all (pok n) = true) : vs.map (pv ad') = vs.map (pv ad) := by
  apply List.map_congr_left
  intro v hm
  exact pv_eq h (List.all_eq_true.mp hv v hm)
theorem pe_eq {ad ad' cA : Nat → Nat} {n : Nat} (h : ∀ i, i < n → ad' i = ad i) {e : va_E} (he : pokE n e = true) : pe ad' cA e = pe ad cA e := by
  cases e with
  | inl x => rfl
  | inr o => simp only [pe]; rw [pv_eqL h he]
theorem pw_eq {ad ad' cA : Nat → Nat} {M : List va_E} (h : ∀ i, i < M.length → ad' i = ad i) (hM : M.all (pokE M.length) = true) : pw ad' cA M = pw ad cA M := by
  apply List.ext_getElem?
  intro i
  simp only [pw, List.getElem?_mapIdx]
  cases hi : M[i]? with
  | none => rfl
  | some e =>
    have hl : i < M.length := (List.getElem?_eq_some_iff.mp hi).1
    simp [h i hl, pe_eq h (List.all_eq_true.mp hM e (List.mem_of_getElem? hi))]
theorem pw_push {ad cA : Nat → Nat} {M : List va_E} {e : va_E} {q : Nat} (hM : M.all (pokE M.length) = true) (he : pokE M.length e = true) :
    pw (va_up ad M.length q) cA (M ++ [e]) = pw ad cA M ++ [(q, pe ad cA e)] := by
  have h : ∀ i, i < M.length → va_up ad M.length q i = ad i := fun i hi => va_up_ne ad q (Nat.ne_of_lt hi)
  unfold pw
  rw [List.mapIdx_append]
  have h1 := pw_eq (cA := cA) h hM
  unfold pw at h1
  rw [h1]
  simp [va_up_self, pe_eq h he]
/-! What a method is: its name, its class, its own name, its bytes, its words, its locals, its answer's type, its room, the cells and slots that it may make, its table of handlers -/
abbrev MI : Type := MethodName × String × String × ByteArray × List Cond × Nat × Option FieldType × Room × (Nat × Nat) × List ExceptionTableEntry
abbrev MI.y (I : MI) : MethodName := I.1
abbrev MI.own (I : MI) : String := I.2.1
abbrev MI.nm (I : MI) : String := I.2.2.1
abbrev MI.cc (I : MI) : ByteArray := I.2.2.2.1
abbrev MI.ws (I : MI) : List Cond := I.2.2.2.2.1
abbrev MI.nL (I : MI) : Nat := I.2.2.2.2.2.1
abbrev MI.ret (I : MI) : Option FieldType := I.2.2.2.2.2.2.1
abbrev MI.rm (I : MI) : Room := I.2.2.2.2.2.2.2.1
abbrev MI.mc (I : MI) : Nat := I.2.2.2.2.2.2.2.2.1.1
abbrev MI.ms (I : MI) : Nat := I.2.2.2.2.2.2.2.2.1.2
abbrev MI.tab (I : MI) : List ExceptionTableEntry := I.2.2.2.2.2.2.2.2.2
/-- how a call ends: an answer and the world, or the name of what is thrown and the world -/
abbrev Out : Type := (Option Value × List va_E) ⊕ (String × List va_E)
def ty3 (cA : Nat → Nat) : List (ClassId × FieldType) := [(cA 0, .int), (cA 1, .boolean), (cA 2, .long)]
/-- the words of a throw that speak of the heap -/
def zw : List Cond := [.isRef (.static Bundle.tN "UNASSIGNED_STACK" Bundle.steD), .isRef (.static Bundle.tN "SUPPRESSED_SENTINEL" Bundle.listD), .laysStatic Bundle.tN "UNASSIGNED_STACK" Bundle.steD, .laysStatic Bundle.tN "SUPPRESSED_SENTINEL" Bundle.listD]
/-- .. hold wherever the tables are alike and what lies outside A is as it is -/
def ZZ (A : Nat → Prop) (s : State) (H : Heap) : Prop := ∀ (U : State) (a' : Array Value), s.vm.Alike U.vm → H.size ≤ U.heap.size → (∀ q : Nat, q < H.size → ¬ A q → U.heap[q]? = H[q]?) → ∀ w ∈ zw, w.before a' U = true
theorem ZZ.kept {A : Nat → Prop} {s : State} {H H1 : Heap} (h : ZZ A s H) (hz : H.size ≤ H1.size) (hq : ∀ q : Nat, q < H.size → ¬ A q → H1[q]? = H[q]?) : ZZ A s H1 :=
  fun U a' h1 h2 h3 => h U a' h1 (Nat.le_trans hz h2) (fun q g1 g2 => (h3 q (Nat.lt_of_lt_of_le g1 hz) g2).trans (hq q g1 g2))
theorem ZZ.moved {A : Nat → Prop} {s U : State} {H : Heap} (h : ZZ A s H) (hv : s.vm.Alike U.vm) : ZZ A U H := fun V a' h1 => h V a' (hv.trans h1)
theorem ZZ.narrow {A B : Nat → Prop} {s : State} {H : Heap} (h : ZZ A s H) (hAB : ∀ q, q < H.size → B q → A q) : ZZ B s H := fun U a' h1 h2 h3 => h U a' h1 h2 (fun q g1 g2 => h3 q g1 (fun z => g2 (hAB q g1 z)))
/-- a word that stays true while the tables warm -/
def okw : Cond → Bool
  | .methodLinkNest .. => true
  | .castable .. => true
  | .declares .. => true
  | w => goodWord w
theorem okw_at {a a' : Array Value} {s U : State} {w : Cond} (hW : s.WarmedH U.vm) (hg : okw w = true) (h : w.before a s = true) : w.before a' U = true := by
  cases w <;> first
    | exact va_Nw.use rfl (va_Nw.warmM hW (va_Nw.of rfl h))
    | exact va_Nw.use rfl (va_Nw.warmC hW (va_Nw.of rfl h))
    | exact va_Nw.use rfl (va_Nw.warmD hW (va_Nw.of rfl h))
    | exact word_at hW (good_of_word hg) h
/-- what is thrown and not caught by a row that names another class -/
def ncp : List (String × String) := [("java/lang/IllegalStateException", "java/lang/IllegalArgumentException"), ("java/lang/IllegalStateException", "java/util/NoSuchElementException"), ("java/util/NoSuchElementException", "java/lang/IllegalArgumentException"), ("java/lang/IndexOutOfBoundsException", "java/util/NoSuchElementException"), ("java/lang/ArithmeticException", "java/lang/IllegalArgumentException")]
/-- the tables' words, here and wherever the tables are warmer -/
def NW (s : State) : Prop := (∀ (U : State) (a' : Array Value), s.WarmedH U.vm → ∀ w ∈ lw_tbl, okw w = true → w.before a' U = true) ∧ ∀ q ∈ ncp, va_Nc q.1 q.2 s
theorem NW.moved {s U : State} (h : NW s) (hW : s.WarmedH U.vm) : NW U := ⟨fun V a' h1 => h.1 V a' (State.WarmedH.trans hW h1), fun q hq => va_Nc.moved hW.alike (h.2 q hq)⟩
theorem NW.at {s : State} (h : NW s) {w : Cond} (hw : w ∈ lw_tbl) (ho : okw w = true) (args : Array Value) : w.before args s = true := h.1 s args (State.WarmedH.refl s) w hw ho
/-- a method's start -/
def Ps (D : va_G) (cA ad : Nat → Nat) (as : List Value) (M : List va_E) (sz : Nat) : Array Value → State → Prop := va_Pc (as.map (pv ad)) (fun U => U.heap.size = sz ∧ va_P D vwCl (pw ad cA M) U.heap ∧ va_K D vwCl (ty3 cA) U ∧ va_D (fun _ => True) (pw ad cA M) ∧ ZZ (va_A (pw ad cA M) sz) U U.heap ∧ NW U)
/-- .. and its end -/
def Qr (D : va_G) (cA ad : Nat → Nat) (n : Nat) (A : Nat → Prop) (r : Option Value × List va_E) : Array Value → State → Outcome → State → Prop := fun _ st o t =>
  (∃ ad' : Nat → Nat, (∀ i, i < n → ad' i = ad i) ∧ (r.2.length = n → ad' = ad) ∧ n ≤ r.2.length ∧ o = .returned (r.1.map (pv ad')) ∧ va_P D vwCl (pw ad' cA r.2) t.heap ∧ va_K D vwCl (ty3 cA) t ∧ va_D A (pw ad' cA r.2)) ∧ va_F A st t
def Qt (D : va_G) (cA ad : Nat → Nat) (n : Nat) (A : Nat → Prop) (mc ms : Nat) (r : String × List va_E) : Array Value → State → Outcome → State → Prop := fun _ st o t =>
  (∃ ad' : Nat → Nat, (∀ i, i < n → ad' i = ad i) ∧ (r.2.length = n → ad' = ad) ∧ n ≤ r.2.length ∧ va_P D vwCl (pw ad' cA r.2) t.heap ∧ va_K D vwCl (ty3 cA) t ∧ va_D A (pw ad' cA r.2)) ∧ ∃ (q : Addr) (ce : Cell) (L : List Loc), o = .threw q ∧ t.heap[q]? = some ce ∧ ce.vm = .none ∧ st.vm.findClass r.1 = some ce.cls ∧ va_F A st t ∧ st.WarmedH t.vm ∧ st.sameButNew ({ t with vm := st.vm } : State) L mc ms ∧ ∀ z ∈ L, A z.base
def Con (l : Launch) (I : MI) (as : List Value) (M : List va_E) : Out → Prop
  | .inl r => ∀ (D : va_G) (cA ad : Nat → Nat) (sz : Nat), Met l I.y I.ws I.rm (Ps D cA ad as M sz) (Qr D cA ad M.length (va_A (pw ad cA M) sz) r) I.mc I.ms (va_A (pw ad cA M) sz)
  | .inr r => ∀ (D : va_G) (cA ad : Nat → Nat) (sz : Nat), MetFree l I.y (headSpec I.ws I.rm) (Ps D cA ad as M sz) (fun _ _ _ _ _ => True) (Qt D cA ad M.length (va_A (pw ad cA M) sz) I.mc I.ms r)
/-- what holds at every point of a walk -/
def Cx (I : MI) (D : va_G) (cA ad : Nat → Nat) (p : Program) (s : State) (m : MethodId) (args : Array Value) (meth : Method) (c : Code) (A : Nat → Prop) (locs : List Loc) (H : Heap) (ls : Array Slot) (lv : List (Nat × Value)) (M : List va_E) : Prop :=
  p.tables.exec = Jvm.exec ∧ c.code = I.cc ∧ c.maxLocals = I.nL ∧ meth.sig.returnType = I.ret ∧ meth.locks = false ∧ meth.name = I.nm ∧ c.exceptionTable.toList = I.tab ∧ NW s ∧ s.vm.findClass I.own = some m.cls ∧
  va_K D vwCl (ty3 cA) s ∧ va_P D vwCl (pw ad cA M) H ∧ va_D A (pw ad cA M) ∧ va_S A s.heap H locs ∧ (∀ q, s.heap.size ≤ q → A q) ∧ ZZ A s s.heap ∧ lv_has ls I.nL (lv.map (fun q => (q.1, pv ad q.2)))
def JQ (D : va_G) (cA ad : Nat → Nat) (n : Nat) (A : Nat → Prop) (mc ms : Nat) (below : List Frame) (args : Array Value) (s : State) : Out → State → Prop
  | .inl r => MQ below (Qr D cA ad n A r) args s mc ms A
  | .inr r => fun t => ∃ o, t.status = .running ∧ Ended t below o ∧ Qt D cA ad n A mc ms r args s o t
/-- the judgement: from here the method ends as 'out' says -/
def J (l : Launch) (I : MI) (pc : Nat) (lv : List (Nat × Value)) (st : List Value) (M : List va_E) (k n : Nat) (out : Out) : Prop :=
  ∀ (D : va_G) (cA ad : Nat → Nat) (p : Program) (e : Env) (s : State) (m : MethodId) (args : Array Value) (below : List Frame) (meth : Method) (c : Code) (A : Nat → Prop) (locs : List Loc) (H : Heap) (ls : Array Slot),
    Cx I D cA ad p s m args meth c A locs H ls lv M → W p l e I.rm s m args below meth c H locs k n (JQ D cA ad M.length A I.mc I.ms below args s out) (F0 m pc ls (st.map (pv ad)))
end
section
section RULES
variable {l : Launch} {I : MI} {pc : Nat} {lv : List (Nat × Value)} {st : List Value} {M : List va_E} {k n : Nat} {out : Out}
theorem pv_cat (ad : Nat → Nat) (v : Value) : (pv ad v).category = v.category := by cases v <;> rfl
/-- a local by its number -/
def lk : List (Nat × Value) → Nat → Option Value
  | [], _ => none
  | q :: r, i => if q.1 = i then some q.2 else lk r i
theorem lk_mem : ∀ {lv : List (Nat × Value)} {i : Nat} {v : Value}, lk lv i = some v → (i, v) ∈ lv
  | [], _, _, h => by cases h
  | q :: r, i, v, h => by
    unfold lk at h
    split at h
    · rename_i e; cases h; subst e; exact List.mem_cons_self
    · exact List.mem_cons_of_mem _ (lk_mem h)
/-- .. set -/
def sv : List (Nat × Value) → Nat → Value → List (Nat × Value)
  | [], i, v => [(i, v)]
  | q :: r, i, v => if q.1 = i then (i, v) :: r else q :: sv r i v
/-- locals that stand once each, and no long one just ahead of i -/
def ndb : List (Nat × Value) → Bool
  | [] => true
  | q :: r => r.all (fun z => !(Nat.beq z.1 q.1)) && ndb r
theorem ndb_nodup : ∀ {lv : List (Nat × Value)}, ndb lv = true → (lv.map (·.1)).Nodup
  | [], _ => List.nodup_nil
  | q :: r, h => by
    simp only [ndb, Bool.and_eq_true] at h
    simp only [List.map_cons, List.nodup_cons]
    refine ⟨fun hm => ?_, ndb_nodup h.2⟩
    obtain ⟨z, hz, e⟩ := List.mem_map.mp hm
    have := List.all_eq_true.mp h.1 z hz
    simp [e, Nat.beq_eq_true_eq] at this
def sok (lv : List (Nat × Value)) (i : Nat) : Bool := lv.all (fun q => !(Nat.beq (q.1 + 1) i && Nat.beq q.2.category 2)) && ndb lv
theorem sv_mem : ∀ {lv : List (Nat × Value)} {i : Nat} {v : Value}, (lv.map (·.1)).Nodup → ∀ q ∈ sv lv i v, q = (i, v) ∨ (q ∈ lv ∧ q.1 ≠ i)
  | [], i, v, _, q, h => by simp [sv] at h; exact Or.inl h
  | q0 :: r, i, v, hn, q, h => by
    simp only [List.map_cons, List.nodup_cons] at hn
    unfold sv at h
    split at h
    · rename_i e
      rcases List.mem_cons.mp h with h | h
      · exact Or.inl h
      · refine Or.inr ⟨List.mem_cons_of_mem _ h, fun e2 => hn.1 ?_⟩
        rw [e, ← e2]; exact List.mem_map.mpr ⟨q, h, rfl⟩
    · rename_i e
      rcases List.mem_cons.mp h with h | h
      · subst h; exact Or.inr ⟨List.mem_cons_self, e⟩
      · rcases sv_mem hn.2 q h with h | h
        · exact Or.inl h
        · exact Or.inr ⟨List.mem_cons_of_mem _ h.1, h.2⟩
theorem lk_has {ad : Nat → Nat} {ls : Array Slot} {nL i : Nat} {v : Value} (h : lv_has ls nL (lv.map (fun q => (q.1, pv ad q.2)))) (hl : lk lv i = some v) : ls[i]? = some (.val (pv ad v)) :=
  h.2.2 (i, pv ad v) (List.mem_map.mpr ⟨(i, v), lk_mem hl, rfl⟩)
theorem sv_has {ad : Nat → Nat} {ls' : Array Slot} {nL i : Nat} {v : Value} (hs : sok lv i = true)
    (h : lv_has ls' nL ((i, pv ad v) :: (lv.map (fun q => (q.1, pv ad q.2))).filter (fun q => !(q.1 == i) && !(q.1 + 1 == i && q.2.category == 2)))) : lv_has ls' nL ((sv lv i v).map (fun q => (q.1, pv ad q.2))) := by
  simp only [sok, Bool.and_eq_true] at hs
  refine ⟨h.1, h.2.1, fun q hq => ?_⟩
  obtain ⟨q0, hq0, rfl⟩ := List.mem_map.mp hq
  refine h.2.2 _ ?_
  rcases sv_mem (ndb_nodup hs.2) q0 hq0 with e | ⟨hm, hne⟩
  · subst e; exact List.mem_cons_self
  · refine List.mem_cons_of_mem _ (List.mem_filter.mpr ⟨List.mem_map.mpr ⟨q0, hm, rfl⟩, ?_⟩)
    have h1 := List.all_eq_true.mp hs.1 q0 hm
    simp only [pv_cat]
    simp only [Bool.and_eq_true, Bool.not_eq_true', beq_eq_false_iff_ne]
    refine ⟨hne, ?_⟩
    cases hz : (q0.1 + 1 == i && q0.2.category == 2) with
    | false => rfl
    | true =>
      simp only [Bool.and_eq_true, beq_iff_eq] at hz
      rw [hz.1, hz.2] at h1
      simp at h1
theorem Cx.lv' {D : va_G} {cA ad : Nat → Nat} {p : Program} {s : State} {m : MethodId} {args : Array Value} {meth : Method} {c : Code} {A : Nat → Prop} {locs : List Loc} {H : Heap} {ls ls' : Array Slot} {lv' : List (Nat × Value)}
    (h : Cx I D cA ad p s m args meth c A locs H ls lv M) (h' : lv_has ls' I.nL (lv'.map (fun q => (q.1, pv ad q.2)))) : Cx I D cA ad p s m args meth c A locs H ls' lv' M := by
  obtain ⟨a1, a2, a3, a4, a5, a6, a7, a8, a9, a10, a11, a12, a13, a14, a15, -⟩ := h
  exact ⟨a1, a2, a3, a4, a5, a6, a7, a8, a9, a10, a11, a12, a13, a14, a15, h'⟩
theorem Cx.hp {D : va_G} {cA ad : Nat → Nat} {p : Program} {s : State} {m : MethodId} {args : Array Value} {meth : Method} {c : Code} {A : Nat → Prop} {locs locs' : List Loc} {H H' : Heap} {ls : Array Slot} {M' : List va_E}
    (h : Cx I D cA ad p s m args meth c A locs H ls lv M) (hP : va_P D vwCl (pw ad cA M') H') (hD : va_D A (pw ad cA M')) (hS : va_S A s.heap H' locs') : Cx I D cA ad p s m args meth c A locs' H' ls lv M' := by
  obtain ⟨a1, a2, a3, a4, a5, a6, a7, a8, a9, a10, -, -, -, a14, a15, a16⟩ := h
  exact ⟨a1, a2, a3, a4, a5, a6, a7, a8, a9, a10, hP, hD, hS, a14, a15, a16⟩
theorem Cx.hx {D : va_G} {cA ad : Nat → Nat} {p : Program} {s : State} {m : MethodId} {args : Array Value} {meth : Method} {c : Code} {A : Nat → Prop} {locs : List Loc} {H : Heap} {ls : Array Slot} (h : Cx I D cA ad p s m args meth c A locs H ls lv M) : p.tables.exec = Jvm.exec := h.1
theorem Cx.hb {D : va_G} {cA ad : Nat → Nat} {p : Program} {s : State} {m : MethodId} {args : Array Value} {meth : Method} {c : Code} {A : Nat → Prop} {locs : List Loc} {H : Heap} {ls : Array Slot} (h : Cx I D cA ad p s m args meth c A locs H ls lv M) : c.code = I.cc := h.2.1
theorem Cx.hl {D : va_G} {cA ad : Nat → Nat} {p : Program} {s : State} {m : MethodId} {args : Array Value} {meth : Method} {c : Code} {A : Nat → Prop} {locs : List Loc} {H : Heap} {ls : Array Slot} (h : Cx I D cA ad p s m args meth c A locs H ls lv M) : lv_has ls I.nL (lv.map (fun q => (q.1, pv ad q.2))) := h.2.2.2.2.2.2.2.2.2.2.2.2.2.2.2
theorem J.iconst {z : Int} {v : Int32} (hd : decode I.cc pc = .ok (.iconst z, 1)) (hv : Int32.ofInt z = v) (kk : J l I (pc + 1) lv (.int v :: st) M k n out) : J l I pc lv (st) M k n out :=
  fun D cA ad p e s m args below meth c A locs H ls h => lv_iconst h.hx h.hb hd hv (kk D cA ad p e s m args below meth c A locs H ls h)
theorem J.bipush {z : Int} {v : Int32} (hd : decode I.cc pc = .ok (.bipush z, 2)) (hv : (Int8.ofInt z).toInt32 = v) (kk : J l I (pc + 2) lv (.int v :: st) M k n out) : J l I pc lv (st) M k n out :=
  fun D cA ad p e s m args below meth c A locs H ls h => lv_bipush h.hx h.hb hd hv (kk D cA ad p e s m args below meth c A locs H ls h)
theorem J.sipush {z : Int} {v : Int32} (hd : decode I.cc pc = .ok (.sipush z, 3)) (hv : (Int16.ofInt z).toInt32 = v) (kk : J l I (pc + 3) lv (.int v :: st) M k n out) : J l I pc lv (st) M k n out :=
  fun D cA ad p e s m args below meth c A locs H ls h => lv_sipush h.hx h.hb hd hv (kk D cA ad p e s m args below meth c A locs H ls h)
theorem J.lconst {z : Fin 2} {v : Int64} (hd : decode I.cc pc = .ok (.lconst z, 1)) (hv : Int64.ofNat (z : Nat) = v) (kk : J l I (pc + 1) lv (.long v :: st) M k n out) : J l I pc lv (st) M k n out :=
  fun D cA ad p e s m args below meth c A locs H ls h => lv_lconst h.hx h.hb hd hv (kk D cA ad p e s m args below meth c A locs H ls h)
theorem J.iload_n {j : Fin 4} {i : Nat} {x : Int32} (hd : decode I.cc pc = .ok (.iload_n j, 1)) (hi : (j : Nat) = i) (hl : lk lv i = some (.int x)) (kk : J l I (pc + 1) lv (.int x :: st) M k n out) : J l I pc lv (st) M k n out :=
  fun D cA ad p e s m args below meth c A locs H ls h => lv_iload_n h.hx h.hb hd hi (lk_has h.hl hl) (kk D cA ad p e s m args below meth c A locs H ls h)
theorem J.iload {i : Nat} {x : Int32} (hd : decode I.cc pc = .ok (.iload i, 2)) (hl : lk lv i = some (.int x)) (kk : J l I (pc + 2) lv (.int x :: st) M k n out) : J l I pc lv (st) M k n out :=
  fun D cA ad p e s m args below meth c A locs H ls h => lv_iload h.hx h.hb hd (lk_has h.hl hl) (kk D cA ad p e s m args below meth c A locs H ls h)
theorem J.lload_n {j : Fin 4} {i : Nat} {x : Int64} (hd : decode I.cc pc = .ok (.lload_n j, 1)) (hi : (j : Nat) = i) (hl : lk lv i = some (.long x)) (kk : J l I (pc + 1) lv (.long x :: st) M k n out) : J l I pc lv (st) M k n out :=
  fun D cA ad p e s m args below meth c A locs H ls h => lv_lload_n h.hx h.hb hd hi (lk_has h.hl hl) (kk D cA ad p e s m args below meth c A locs H ls h)
theorem J.lload {i : Nat} {x : Int64} (hd : decode I.cc pc = .ok (.lload i, 2)) (hl : lk lv i = some (.long x)) (kk : J l I (pc + 2) lv (.long x :: st) M k n out) : J l I pc lv (st) M k n out :=
  fun D cA ad p e s m args below meth c A locs H ls h => lv_lload h.hx h.hb hd (lk_has h.hl hl) (kk D cA ad p e s m args below meth c A locs H ls h)
theorem J.aload_n {j : Fin 4} {i : Nat} {x : Nat} (hd : decode I.cc pc = .ok (.aload_n j, 1)) (hi : (j : Nat) = i) (hl : lk lv i = some (.ref x)) (kk : J l I (pc + 1) lv (.ref x :: st) M k n out) : J l I pc lv (st) M k n out :=
  fun D cA ad p e s m args below meth c A locs H ls h => lv_aload_n h.hx h.hb hd hi (lk_has h.hl hl) (kk D cA ad p e s m args below meth c A locs H ls h)
theorem J.aload {i : Nat} {x : Nat} (hd : decode I.cc pc = .ok (.aload i, 2)) (hl : lk lv i = some (.ref x)) (kk : J l I (pc + 2) lv (.ref x :: st) M k n out) : J l I pc lv (st) M k n out :=
  fun D cA ad p e s m args below meth c A locs H ls h => lv_aload h.hx h.hb hd (lk_has h.hl hl) (kk D cA ad p e s m args below meth c A locs H ls h)
theorem J.istore_n {j : Fin 4} {i : Nat} {x : Int32} {r : List Value} (hd : decode I.cc pc = .ok (.istore_n j, 1)) (hi : (j : Nat) = i) (hn : i < I.nL) (hs : sok lv i = true) (kk : J l I (pc + 1) (sv lv i (.int x)) r M k n out) : J l I pc lv (.int x :: r) M k n out :=
  fun D cA ad p e s m args below meth c A locs H ls h => lv_istore_n h.hx h.hb hd hi h.hl hn rfl (fun ls' h' => kk D cA ad p e s m args below meth c A locs H ls' (h.lv' (sv_has (v := .int x) hs h')))
theorem J.istore {i : Nat} {x : Int32} {r : List Value} (hd : decode I.cc pc = .ok (.istore i, 2)) (hn : i < I.nL) (hs : sok lv i = true) (kk : J l I (pc + 2) (sv lv i (.int x)) r M k n out) : J l I pc lv (.int x :: r) M k n out :=
  fun D cA ad p e s m args below meth c A locs H ls h => lv_istore h.hx h.hb hd h.hl hn rfl (fun ls' h' => kk D cA ad p e s m args below meth c A locs H ls' (h.lv' (sv_has (v := .int x) hs h')))
theorem J.astore_n {j : Fin 4} {i : Nat} {x : Nat} {r : List Value} (hd : decode I.cc pc = .ok (.astore_n j, 1)) (hi : (j : Nat) = i) (hn : i < I.nL) (hs : sok lv i = true) (kk : J l I (pc + 1) (sv lv i (.ref x)) r M k n out) : J l I pc lv (.ref x :: r) M k n out :=
  fun D cA ad p e s m args below meth c A locs H ls h => lv_astore_n h.hx h.hb hd hi h.hl hn rfl (fun ls' h' => kk D cA ad p e s m args below meth c A locs H ls' (h.lv' (sv_has (v := .ref x) hs h')))
theorem J.astore {i : Nat} {x : Nat} {r : List Value} (hd : decode I.cc pc = .ok (.astore i, 2)) (hn : i < I.nL) (hs : sok lv i = true) (kk : J l I (pc + 2) (sv lv i (.ref x)) r M k n out) : J l I pc lv (.ref x :: r) M k n out :=
  fun D cA ad p e s m args below meth c A locs H ls h => lv_astore h.hx h.hb hd h.hl hn rfl (fun ls' h' => kk D cA ad p e s m args below meth c A locs H ls' (h.lv' (sv_has (v := .ref x) hs h')))
theorem J.iinc {i : Nat} {z : Int} {x v : Int32} (hd : decode I.cc pc = .ok (.iinc i z, 3)) (hl : lk lv i = some (.int x)) (hv : x + Int32.ofInt z = v) (hn : i < I.nL) (hs : sok lv i = true) (kk : J l I (pc + 3) (sv lv i (.int v)) st M k n out) : J l I pc lv st M k n out := by
  intro D cA ad p e s m args below meth c A locs H ls h
  obtain ⟨j, hj⟩ := List.getElem?_of_mem (List.mem_map.mpr ⟨(i, Value.int x), lk_mem hl, rfl⟩ : (i, pv ad (Value.int x)) ∈ lv.map (fun q => (q.1, pv ad q.2)))
  exact lv_iinc h.hx h.hb hd h.hl (k := j) hj hv hn rfl (fun ls' h' => kk D cA ad p e s m args below meth c A locs H ls' (h.lv' (sv_has (v := .int v) hs h')))
theorem J.iadd {x y : Int32} {r : List Value} (hd : decode I.cc pc = .ok (.iadd, 1)) (kk : J l I (pc + 1) lv (.int (x + y) :: r) M k n out) : J l I pc lv (.int y :: .int x :: r) M k n out :=
  fun D cA ad p e s m args below meth c A locs H ls h => lv_iadd h.hx h.hb hd (kk D cA ad p e s m args below meth c A locs H ls h)
theorem J.isub {x y : Int32} {r : List Value} (hd : decode I.cc pc = .ok (.isub, 1)) (kk : J l I (pc + 1) lv (.int (x - y) :: r) M k n out) : J l I pc lv (.int y :: .int x :: r) M k n out :=
  fun D cA ad p e s m args below meth c A locs H ls h => lv_isub h.hx h.hb hd (kk D cA ad p e s m args below meth c A locs H ls h)
theorem J.imul {x y : Int32} {r : List Value} (hd : decode I.cc pc = .ok (.imul, 1)) (kk : J l I (pc + 1) lv (.int (x * y) :: r) M k n out) : J l I pc lv (.int y :: .int x :: r) M k n out :=
  fun D cA ad p e s m args below meth c A locs H ls h => lv_imul h.hx h.hb hd (kk D cA ad p e s m args below meth c A locs H ls h)
theorem J.iand {x y : Int32} {r : List Value} (hd : decode I.cc pc = .ok (.iand, 1)) (kk : J l I (pc + 1) lv (.int (x &&& y) :: r) M k n out) : J l I pc lv (.int y :: .int x :: r) M k n out :=
  fun D cA ad p e s m args below meth c A locs H ls h => lv_iand h.hx h.hb hd (kk D cA ad p e s m args below meth c A locs H ls h)
theorem J.ior {x y : Int32} {r : List Value} (hd : decode I.cc pc = .ok (.ior, 1)) (kk : J l I (pc + 1) lv (.int (x ||| y) :: r) M k n out) : J l I pc lv (.int y :: .int x :: r) M k n out :=
  fun D cA ad p e s m args below meth c A locs H ls h => lv_ior h.hx h.hb hd (kk D cA ad p e s m args below meth c A locs H ls h)
theorem J.ixor {x y : Int32} {r : List Value} (hd : decode I.cc pc = .ok (.ixor, 1)) (kk : J l I (pc + 1) lv (.int (x ^^^ y) :: r) M k n out) : J l I pc lv (.int y :: .int x :: r) M k n out :=
  fun D cA ad p e s m args below meth c A locs H ls h => lv_ixor h.hx h.hb hd (kk D cA ad p e s m args below meth c A locs H ls h)
theorem J.land {x y : Int64} {r : List Value} (hd : decode I.cc pc = .ok (.land, 1)) (kk : J l I (pc + 1) lv (.long (x &&& y) :: r) M k n out) : J l I pc lv (.long y :: .long x :: r) M k n out :=
  fun D cA ad p e s m args below meth c A locs H ls h => lv_land h.hx h.hb hd (kk D cA ad p e s m args below meth c A locs H ls h)
theorem J.lor {x y : Int64} {r : List Value} (hd : decode I.cc pc = .ok (.lor, 1)) (kk : J l I (pc + 1) lv (.long (x ||| y) :: r) M k n out) : J l I pc lv (.long y :: .long x :: r) M k n out :=
  fun D cA ad p e s m args below meth c A locs H ls h => lv_lor h.hx h.hb hd (kk D cA ad p e s m args below meth c A locs H ls h)
theorem J.lxor {x y : Int64} {r : List Value} (hd : decode I.cc pc = .ok (.lxor, 1)) (kk : J l I (pc + 1) lv (.long (x ^^^ y) :: r) M k n out) : J l I pc lv (.long y :: .long x :: r) M k n out :=
  fun D cA ad p e s m args below meth c A locs H ls h => lv_lxor h.hx h.hb hd (kk D cA ad p e s m args below meth c A locs H ls h)
theorem J.ladd {x y : Int64} {r : List Value} (hd : decode I.cc pc = .ok (.ladd, 1)) (kk : J l I (pc + 1) lv (.long (x + y) :: r) M k n out) : J l I pc lv (.long y :: .long x :: r) M k n out :=
  fun D cA ad p e s m args below meth c A locs H ls h => lv_ladd h.hx h.hb hd (kk D cA ad p e s m args below meth c A locs H ls h)
theorem J.idiv {x y : Int32} {r : List Value} (hd : decode I.cc pc = .ok (.idiv, 1)) (hne : ¬ y = 0) (kk : J l I (pc + 1) lv (.int (x / y) :: r) M k n out) : J l I pc lv (.int y :: .int x :: r) M k n out :=
  fun D cA ad p e s m args below meth c A locs H ls h => lv_idiv h.hx h.hb hd hne (kk D cA ad p e s m args below meth c A locs H ls h)
theorem J.irem {x y : Int32} {r : List Value} (hd : decode I.cc pc = .ok (.irem, 1)) (hne : ¬ y = 0) (kk : J l I (pc + 1) lv (.int (x - x / y * y) :: r) M k n out) : J l I pc lv (.int y :: .int x :: r) M k n out :=
  fun D cA ad p e s m args below meth c A locs H ls h => lv_irem h.hx h.hb hd hne (kk D cA ad p e s m args below meth c A locs H ls h)
theorem J.ishl {x y : Int32} {r : List Value} (hd : decode I.cc pc = .ok (.ishl, 1)) (kk : J l I (pc + 1) lv (.int (x <<< (y &&& 31)) :: r) M k n out) : J l I pc lv (.int y :: .int x :: r) M k n out :=
  fun D cA ad p e s m args below meth c A locs H ls h => lv_ishl h.hx h.hb hd (kk D cA ad p e s m args below meth c A locs H ls h)
theorem J.ishr {x y : Int32} {r : List Value} (hd : decode I.cc pc = .ok (.ishr, 1)) (kk : J l I (pc + 1) lv (.int (x >>> (y &&& 31)) :: r) M k n out) : J l I pc lv (.int y :: .int x :: r) M k n out :=
  fun D cA ad p e s m args below meth c A locs H ls h => lv_ishr h.hx h.hb hd (kk D cA ad p e s m args below meth c A locs H ls h)
theorem J.i2l {x : Int32} {r : List Value} (hd : decode I.cc pc = .ok (.i2l, 1)) (kk : J l I (pc + 1) lv (.long x.toInt64 :: r) M k n out) : J l I pc lv (.int x :: r) M k n out :=
  fun D cA ad p e s m args below meth c A locs H ls h => lv_i2l h.hx h.hb hd rfl (kk D cA ad p e s m args below meth c A locs H ls h)
theorem J.l2i {x : Int64} {r : List Value} (hd : decode I.cc pc = .ok (.l2i, 1)) (kk : J l I (pc + 1) lv (.int x.toInt32 :: r) M k n out) : J l I pc lv (.long x :: r) M k n out :=
  fun D cA ad p e s m args below meth c A locs H ls h => lv_l2i h.hx h.hb hd rfl (kk D cA ad p e s m args below meth c A locs H ls h)
theorem J.lushr {x : Int64} {y : Int32} {r : List Value} (hd : decode I.cc pc = .ok (.lushr, 1)) (kk : J l I (pc + 1) lv (.long (x.toUInt64 >>> (y.toInt64.toUInt64 &&& Int64.toUInt64 63)).toInt64 :: r) M k n out) : J l I pc lv (.int y :: .long x :: r) M k n out :=
  fun D cA ad p e s m args below meth c A locs H ls h => lv_lushr h.hx h.hb hd rfl (kk D cA ad p e s m args below meth c A locs H ls h)
theorem J.lshl {x : Int64} {y : Int32} {r : List Value} (hd : decode I.cc pc = .ok (.lshl, 1)) (kk : J l I (pc + 1) lv (.long (x <<< (y.toInt64 &&& 63)) :: r) M k n out) : J l I pc lv (.int y :: .long x :: r) M k n out :=
  fun D cA ad p e s m args below meth c A locs H ls h => lv_lshl h.hx h.hb hd rfl (kk D cA ad p e s m args below meth c A locs H ls h)
theorem J.lcmp {x y : Int64} {r : List Value} (hd : decode I.cc pc = .ok (.lcmp, 1)) (kk : J l I (pc + 1) lv (.int (lg_cmp x y) :: r) M k n out) : J l I pc lv (.long y :: .long x :: r) M k n out :=
  fun D cA ad p e s m args below meth c A locs H ls h => W.lcmp h.hx h.hb hd (kk D cA ad p e s m args below meth c A locs H ls h)
theorem J.dup {a : Value} {r : List Value} (hd : decode I.cc pc = .ok (.dup, 1)) (ha : a.category = 1) (kk : J l I (pc + 1) lv (a :: a :: r) M k n out) : J l I pc lv (a :: r) M k n out :=
  fun D cA ad p e s m args below meth c A locs H ls h => lv_dup h.hx h.hb hd ((pv_cat ad a).trans ha) (kk D cA ad p e s m args below meth c A locs H ls h)
theorem J.pop {a : Value} {r : List Value} (hd : decode I.cc pc = .ok (.pop, 1)) (ha : a.category = 1) (kk : J l I (pc + 1) lv (r) M k n out) : J l I pc lv (a :: r) M k n out :=
  fun D cA ad p e s m args below meth c A locs H ls h => lv_pop h.hx h.hb hd ((pv_cat ad a).trans ha) (kk D cA ad p e s m args below meth c A locs H ls h)
theorem J.dup_x1 {a b : Value} {r : List Value} (hd : decode I.cc pc = .ok (.dup_x1, 1)) (ha : a.category = 1) (hb : b.category = 1) (kk : J l I (pc + 1) lv (a :: b :: a :: r) M k n out) : J l I pc lv (a :: b :: r) M k n out :=
  fun D cA ad p e s m args below meth c A locs H ls h => lv_dup_x1 h.hx h.hb hd ((pv_cat ad a).trans ha) ((pv_cat ad b).trans hb) (kk D cA ad p e s m args below meth c A locs H ls h)
theorem J.dup_x2 {a b d : Value} {r : List Value} (hd : decode I.cc pc = .ok (.dup_x2, 1)) (ha : a.category = 1) (hb : b.category = 1) (hc : d.category = 1) (kk : J l I (pc + 1) lv (a :: b :: d :: a :: r) M k n out) : J l I pc lv (a :: b :: d :: r) M k n out :=
  fun D cA ad p e s m args below meth c A locs H ls h => lv_dup_x2 h.hx h.hb hd ((pv_cat ad a).trans ha) ((pv_cat ad b).trans hb) ((pv_cat ad d).trans hc) (kk D cA ad p e s m args below meth c A locs H ls h)
theorem J.dup2 {a b : Value} {r : List Value} (hd : decode I.cc pc = .ok (.dup2, 1)) (ha : a.category = 1) (hb : b.category = 1) (kk : J l I (pc + 1) lv (a :: b :: a :: b :: r) M k n out) : J l I pc lv (a :: b :: r) M k n out :=
  fun D cA ad p e s m args below meth c A locs H ls h => lv_dup2_11 h.hx h.hb hd ((pv_cat ad a).trans ha) ((pv_cat ad b).trans hb) (kk D cA ad p e s m args below meth c A locs H ls h)
theorem J.goto {off : Int} {tgt : Nat} (hd : decode I.cc pc = .ok (.goto off, 3)) (ht : (pc : Int) + off = (tgt : Int)) (kk : J l I tgt lv st M k n out) : J l I pc lv st M k n out :=
  fun D cA ad p e s m args below meth c A locs H ls h => lv_goto h.hx h.hb hd ht (kk D cA ad p e s m args below meth c A locs H ls h)
theorem J.if_eq {x : Int32} {off : Int} {tgt : Nat} {r : List Value} (hd : decode I.cc pc = .ok (.ifCond .eq off, 3)) (ht : (pc : Int) + off = (tgt : Int)) (kt : x = 0 → J l I tgt lv r M k n out) (kf : ¬ x = 0 → J l I (pc + 3) lv r M k n out) : J l I pc lv (.int x :: r) M k n out :=
  fun D cA ad p e s m args below meth c A locs H ls h => lv_if_eq h.hx h.hb hd ht (fun q => kt q D cA ad p e s m args below meth c A locs H ls h) (fun q => kf q D cA ad p e s m args below meth c A locs H ls h)
theorem J.icmp_eq {x y : Int32} {off : Int} {tgt : Nat} {r : List Value} (hd : decode I.cc pc = .ok (.if_icmp .eq off, 3)) (ht : (pc : Int) + off = (tgt : Int)) (kt : x = y → J l I tgt lv r M k n out) (kf : ¬ x = y → J l I (pc + 3) lv r M k n out) : J l I pc lv (.int y :: .int x :: r) M k n out :=
  fun D cA ad p e s m args below meth c A locs H ls h => lv_icmp_eq h.hx h.hb hd ht (fun q => kt q D cA ad p e s m args below meth c A locs H ls h) (fun q => kf q D cA ad p e s m args below meth c A locs H ls h)
theorem J.if_ne {x : Int32} {off : Int} {tgt : Nat} {r : List Value} (hd : decode I.cc pc = .ok (.ifCond .ne off, 3)) (ht : (pc : Int) + off = (tgt : Int)) (kt : ¬ x = 0 → J l I tgt lv r M k n out) (kf : x = 0 → J l I (pc + 3) lv r M k n out) : J l I pc lv (.int x :: r) M k n out :=
  fun D cA ad p e s m args below meth c A locs H ls h => lv_if_ne h.hx h.hb hd ht (fun q => kt q D cA ad p e s m args below meth c A locs H ls h) (fun q => kf q D cA ad p e s m args below meth c A locs H ls h)
theorem J.icmp_ne {x y : Int32} {off : Int} {tgt : Nat} {r : List Value} (hd : decode I.cc pc = .ok (.if_icmp .ne off, 3)) (ht : (pc : Int) + off = (tgt : Int)) (kt : ¬ x = y → J l I tgt lv r M k n out) (kf : x = y → J l I (pc + 3) lv r M k n out) : J l I pc lv (.int y :: .int x :: r) M k n out :=
  fun D cA ad p e s m args below meth c A locs H ls h => lv_icmp_ne h.hx h.hb hd ht (fun q => kt q D cA ad p e s m args below meth c A locs H ls h) (fun q => kf q D cA ad p e s m args below meth c A locs H ls h)
theorem J.if_lt {x : Int32} {off : Int} {tgt : Nat} {r : List Value} (hd : decode I.cc pc = .ok (.ifCond .lt off, 3)) (ht : (pc : Int) + off = (tgt : Int)) (kt : x < 0 → J l I tgt lv r M k n out) (kf : ¬ x < 0 → J l I (pc + 3) lv r M k n out) : J l I pc lv (.int x :: r) M k n out :=
  fun D cA ad p e s m args below meth c A locs H ls h => lv_if_lt h.hx h.hb hd ht (fun q => kt q D cA ad p e s m args below meth c A locs H ls h) (fun q => kf q D cA ad p e s m args below meth c A locs H ls h)
theorem J.icmp_lt {x y : Int32} {off : Int} {tgt : Nat} {r : List Value} (hd : decode I.cc pc = .ok (.if_icmp .lt off, 3)) (ht : (pc : Int) + off = (tgt : Int)) (kt : x < y → J l I tgt lv r M k n out) (kf : ¬ x < y → J l I (pc + 3) lv r M k n out) : J l I pc lv (.int y :: .int x :: r) M k n out :=
  fun D cA ad p e s m args below meth c A locs H ls h => lv_icmp_lt h.hx h.hb hd ht (fun q => kt q D cA ad p e s m args below meth c A locs H ls h) (fun q => kf q D cA ad p e s m args below meth c A locs H ls h)
theorem J.if_ge {x : Int32} {off : Int} {tgt : Nat} {r : List Value} (hd : decode I.cc pc = .ok (.ifCond .ge off, 3)) (ht : (pc : Int) + off = (tgt : Int)) (kt : 0 ≤ x → J l I tgt lv r M k n out) (kf : ¬ 0 ≤ x → J l I (pc + 3) lv r M k n out) : J l I pc lv (.int x :: r) M k n out :=
  fun D cA ad p e s m args below meth c A locs H ls h => lv_if_ge h.hx h.hb hd ht (fun q => kt q D cA ad p e s m args below meth c A locs H ls h) (fun q => kf q D cA ad p e s m args below meth c A locs H ls h)
theorem J.icmp_ge {x y : Int32} {off : Int} {tgt : Nat} {r : List Value} (hd : decode I.cc pc = .ok (.if_icmp .ge off, 3)) (ht : (pc : Int) + off = (tgt : Int)) (kt : y ≤ x → J l I tgt lv r M k n out) (kf : ¬ y ≤ x → J l I (pc + 3) lv r M k n out) : J l I pc lv (.int y :: .int x :: r) M k n out :=
  fun D cA ad p e s m args below meth c A locs H ls h => lv_icmp_ge h.hx h.hb hd ht (fun q => kt q D cA ad p e s m args below meth c A locs H ls h) (fun q => kf q D cA ad p e s m args below meth c A locs H ls h)
theorem J.if_gt {x : Int32} {off : Int} {tgt : Nat} {r : List Value} (hd : decode I.cc pc = .ok (.ifCond .gt off, 3)) (ht : (pc : Int) + off = (tgt : Int)) (kt : 0 < x → J l I tgt lv r M k n out) (kf : ¬ 0 < x → J l I (pc + 3) lv r M k n out) : J l I pc lv (.int x :: r) M k n out :=
  fun D cA ad p e s m args below meth c A locs H ls h => lv_if_gt h.hx h.hb hd ht (fun q => kt q D cA ad p e s m args below meth c A locs H ls h) (fun q => kf q D cA ad p e s m args below meth c A locs H ls h)
theorem J.icmp_gt {x y : Int32} {off : Int} {tgt : Nat} {r : List Value} (hd : decode I.cc pc = .ok (.if_icmp .gt off, 3)) (ht : (pc : Int) + off = (tgt : Int)) (kt : y < x → J l I tgt lv r M k n out) (kf : ¬ y < x → J l I (pc + 3) lv r M k n out) : J l I pc lv (.int y :: .int x :: r) M k n out :=
  fun D cA ad p e s m args below meth c A locs H ls h => lv_icmp_gt h.hx h.hb hd ht (fun q => kt q D cA ad p e s m args below meth c A locs H ls h) (fun q => kf q D cA ad p e s m args below meth c A locs H ls h)
theorem J.if_le {x : Int32} {off : Int} {tgt : Nat} {r : List Value} (hd : decode I.cc pc = .ok (.ifCond .le off, 3)) (ht : (pc : Int) + off = (tgt : Int)) (kt : x ≤ 0 → J l I tgt lv r M k n out) (kf : ¬ x ≤ 0 → J l I (pc + 3) lv r M k n out) : J l I pc lv (.int x :: r) M k n out :=
  fun D cA ad p e s m args below meth c A locs H ls h => lv_if_le h.hx h.hb hd ht (fun q => kt q D cA ad p e s m args below meth c A locs H ls h) (fun q => kf q D cA ad p e s m args below meth c A locs H ls h)
theorem J.icmp_le {x y : Int32} {off : Int} {tgt : Nat} {r : List Value} (hd : decode I.cc pc = .ok (.if_icmp .le off, 3)) (ht : (pc : Int) + off = (tgt : Int)) (kt : x ≤ y → J l I tgt lv r M k n out) (kf : ¬ x ≤ y → J l I (pc + 3) lv r M k n out) : J l I pc lv (.int y :: .int x :: r) M k n out :=
  fun D cA ad p e s m args below meth c A locs H ls h => lv_icmp_le h.hx h.hb hd ht (fun q => kt q D cA ad p e s m args below meth c A locs H ls h) (fun q => kf q D cA ad p e s m args below meth c A locs H ls h)
theorem Cx.hK {D : va_G} {cA ad : Nat → Nat} {p : Program} {s : State} {m : MethodId} {args : Array Value} {meth : Method} {c : Code} {A : Nat → Prop} {locs : List Loc} {H : Heap} {ls : Array Slot} (h : Cx I D cA ad p s m args meth c A locs H ls lv M) : va_K D vwCl (ty3 cA) s := h.2.2.2.2.2.2.2.2.2.1
theorem Cx.hP {D : va_G} {cA ad : Nat → Nat} {p : Program} {s : State} {m : MethodId} {args : Array Value} {meth : Method} {c : Code} {A : Nat → Prop} {locs : List Loc} {H : Heap} {ls : Array Slot} (h : Cx I D cA ad p s m args meth c A locs H ls lv M) : va_P D vwCl (pw ad cA M) H := h.2.2.2.2.2.2.2.2.2.2.1
theorem Cx.hD {D : va_G} {cA ad : Nat → Nat} {p : Program} {s : State} {m : MethodId} {args : Array Value} {meth : Method} {c : Code} {A : Nat → Prop} {locs : List Loc} {H : Heap} {ls : Array Slot} (h : Cx I D cA ad p s m args meth c A locs H ls lv M) : va_D A (pw ad cA M) := h.2.2.2.2.2.2.2.2.2.2.2.1
theorem Cx.hS {D : va_G} {cA ad : Nat → Nat} {p : Program} {s : State} {m : MethodId} {args : Array Value} {meth : Method} {c : Code} {A : Nat → Prop} {locs : List Loc} {H : Heap} {ls : Array Slot} (h : Cx I D cA ad p s m args meth c A locs H ls lv M) : va_S A s.heap H locs := h.2.2.2.2.2.2.2.2.2.2.2.2.1
theorem Cx.hA {D : va_G} {cA ad : Nat → Nat} {p : Program} {s : State} {m : MethodId} {args : Array Value} {meth : Method} {c : Code} {A : Nat → Prop} {locs : List Loc} {H : Heap} {ls : Array Slot} (h : Cx I D cA ad p s m args meth c A locs H ls lv M) : ∀ q, s.heap.size ≤ q → A q := h.2.2.2.2.2.2.2.2.2.2.2.2.2.1
theorem Cx.hZ {D : va_G} {cA ad : Nat → Nat} {p : Program} {s : State} {m : MethodId} {args : Array Value} {meth : Method} {c : Code} {A : Nat → Prop} {locs : List Loc} {H : Heap} {ls : Array Slot} (h : Cx I D cA ad p s m args meth c A locs H ls lv M) : ZZ A s s.heap := h.2.2.2.2.2.2.2.2.2.2.2.2.2.2.1
theorem Cx.hw {D : va_G} {cA ad : Nat → Nat} {p : Program} {s : State} {m : MethodId} {args : Array Value} {meth : Method} {c : Code} {A : Nat → Prop} {locs : List Loc} {H : Heap} {ls : Array Slot} (h : Cx I D cA ad p s m args meth c A locs H ls lv M) : NW s := h.2.2.2.2.2.2.2.1
theorem Cx.ho {D : va_G} {cA ad : Nat → Nat} {p : Program} {s : State} {m : MethodId} {args : Array Value} {meth : Method} {c : Code} {A : Nat → Prop} {locs : List Loc} {H : Heap} {ls : Array Slot} (h : Cx I D cA ad p s m args meth c A locs H ls lv M) : s.vm.findClass I.own = some m.cls := h.2.2.2.2.2.2.2.2.1
theorem J.ialoadR {a cell : Nat} {f : Nat → Int32} {i : Int32} {r : List Value} (hd : decode I.cc pc = .ok (.iaload, 1)) (hM : M[a]? = some (.inl (0, cell, .inl f))) (hi : vp_in i cell) (kk : J l I (pc + 1) lv (.int (f i.toNatClampNeg) :: r) M k n out) : J l I pc lv (.int i :: .ref a :: r) M k n out :=
  fun D cA ad p e s m args below meth c A locs H ls h => va_iald h.hx h.hb h.hK h.hP a 0 (pw_at hM) rfl hi hd (kk D cA ad p e s m args below meth c A locs H ls h)
theorem J.baloadR {a cell : Nat} {f : Nat → Int32} {i : Int32} {r : List Value} (hd : decode I.cc pc = .ok (.baload, 1)) (hM : M[a]? = some (.inl (1, cell, .inl f))) (hi : vp_in i cell) (kk : J l I (pc + 1) lv (.int (f i.toNatClampNeg) :: r) M k n out) : J l I pc lv (.int i :: .ref a :: r) M k n out :=
  fun D cA ad p e s m args below meth c A locs H ls h => va_zald h.hx h.hb h.hK h.hP a 1 (pw_at hM) rfl hi hd (kk D cA ad p e s m args below meth c A locs H ls h)
theorem J.laloadR {a cell : Nat} {f : Nat → Int64} {i : Int32} {r : List Value} (hd : decode I.cc pc = .ok (.laload, 1)) (hM : M[a]? = some (.inl (2, cell, .inr (.inl f)))) (hi : vp_in i cell) (kk : J l I (pc + 1) lv (.long (f i.toNatClampNeg) :: r) M k n out) : J l I pc lv (.int i :: .ref a :: r) M k n out :=
  fun D cA ad p e s m args below meth c A locs H ls h => va_lald h.hx h.hb h.hK h.hP a 2 (pw_at hM) rfl hi hd (kk D cA ad p e s m args below meth c A locs H ls h)
theorem jq_len {D : va_G} {cA ad : Nat → Nat} {A : Nat → Prop} {mc ms : Nat} {below : List Frame} {args : Array Value} {s : State} {a : Nat} {e : va_E} : JQ D cA ad (M.set a e).length A mc ms below args s out = JQ D cA ad M.length A mc ms below args s out := by rw [List.length_set]
theorem J.iastoreR {a cell : Nat} {f : Nat → Int32} {i x : Int32} {r : List Value} (hd : decode I.cc pc = .ok (.iastore, 1)) (hM : M[a]? = some (.inl (0, cell, .inl f))) (hi : vp_in i cell) (kk : J l I (pc + 1) lv r (M.set a (.inl (0, cell, .inl (upd f i.toNatClampNeg x)))) k n out) : J l I pc lv (.int x :: .int i :: .ref a :: r) M k n out := by
  intro D cA ad p e s m args below meth c A locs H ls h
  refine va_iast h.hx h.hb h.hK h.hP h.hD h.hS a 0 (pw_at hM) rfl hi hd (fun H1 locs1 hP hD hS => ?_)
  have e1 := pw_set (ad := ad) (cA := cA) (M := M) (k := a) (e := .inl (0, cell, .inl (upd f i.toNatClampNeg x)))
  have := kk D cA ad p e s m args below meth c A locs1 H1 ls (h.hp (e1 ▸ hP) (e1 ▸ hD) hS)
  rw [jq_len] at this
  exact this
theorem J.bastoreR {a cell : Nat} {f : Nat → Int32} {i x : Int32} {r : List Value} (hd : decode I.cc pc = .ok (.bastore, 1)) (hM : M[a]? = some (.inl (1, cell, .inl f))) (hi : vp_in i cell) (kk : J l I (pc + 1) lv r (M.set a (.inl (1, cell, .inl (upd f i.toNatClampNeg (vp_nar .boolean x))))) k n out) : J l I pc lv (.int x :: .int i :: .ref a :: r) M k n out := by
  intro D cA ad p e s m args below meth c A locs H ls h
  refine va_zast h.hx h.hb h.hK h.hP h.hD h.hS a 1 (pw_at hM) rfl hi hd (fun H1 locs1 hP hD hS => ?_)
  have e1 := pw_set (ad := ad) (cA := cA) (M := M) (k := a) (e := .inl (1, cell, .inl (upd f i.toNatClampNeg (vp_nar .boolean x))))
  have := kk D cA ad p e s m args below meth c A locs1 H1 ls (h.hp (e1 ▸ hP) (e1 ▸ hD) hS)
  rw [jq_len] at this
  exact this
theorem J.lastoreR {a cell : Nat} {f : Nat → Int64} {i : Int32} {x : Int64} {r : List Value} (hd : decode I.cc pc = .ok (.lastore, 1)) (hM : M[a]? = some (.inl (2, cell, .inr (.inl f)))) (hi : vp_in i cell) (kk : J l I (pc + 1) lv r (M.set a (.inl (2, cell, .inr (.inl (vp_updL f i.toNatClampNeg x))))) k n out) : J l I pc lv (.long x :: .int i :: .ref a :: r) M k n out := by
  intro D cA ad p e s m args below meth c A locs H ls h
  refine va_last h.hx h.hb h.hK h.hP h.hD h.hS a 2 (pw_at hM) rfl hi hd (fun H1 locs1 hP hD hS => ?_)
  have e1 := pw_set (ad := ad) (cA := cA) (M := M) (k := a) (e := .inl (2, cell, .inr (.inl (vp_updL f i.toNatClampNeg x))))
  have := kk D cA ad p e s m args below meth c A locs1 H1 ls (h.hp (e1 ▸ hP) (e1 ▸ hD) hS)
  rw [jq_len] at this
  exact this
theorem J.arraylength {a t : Nat} {x : vp_A} {v : Int32} {r : List Value} (hd : decode I.cc pc = .ok (.arraylength, 1)) (hM : M[a]? = some (.inl (t, x))) (ht : t < 3) (hv : Int32.ofNat x.1 = v) (kk : J l I (pc + 1) lv (.int v :: r) M k n out) : J l I pc lv (.ref a :: r) M k n out := by
  intro D cA ad p e s m args below meth c A locs H ls h
  have : ∃ ty, (ty3 cA)[t]? = some (cA t, ty) := by
    rcases (show t = 0 ∨ t = 1 ∨ t = 2 by omega) with rfl | rfl | rfl <;> exact ⟨_, rfl⟩
  obtain ⟨ty, ht⟩ := this
  exact va_alen h.hx h.hb h.hK h.hP a t (pw_at hM) ht hv hd (kk D cA ad p e s m args below meth c A locs H ls h)
/-- what a field access links -/
def FL (own : String) (index ci f : Nat) : Prop := ∃ (C : String) (T : u_T) (N : Nat) (ref : String), vwCl[ci]? = some (C, T, N) ∧ f < N ∧ (∀ w ∈ u_ws C T N, w ∈ lw_tbl ∧ okw w = true) ∧ Cond.fieldLink own index ref (T f).2.1 (T f).2.2.1 ∈ lw_tbl ∧ (T f).1 = ref
theorem J.getfield {a index ci f : Nat} {fs : List Value} {v : Value} {r : List Value} (hd : decode I.cc pc = .ok (.getfield index, 3)) (hF : FL I.own index ci f) (hM : M[a]? = some (.inr (ci, fs))) (hv : fs[f]? = some v) (kk : J l I (pc + 3) lv (v :: r) M k n out) : J l I pc lv (.ref a :: r) M k n out := by
  intro D cA ad p e s m args below meth c A locs H ls h
  obtain ⟨C, T, N, ref, h1, h2, h3, h4, h5⟩ := hF
  exact va_get (D := D) (ci := ci) (v := pv ad v) (C := C) (T := T) (N := N) h.hx h.hb (Ts := u_ws C T N) (fun w hw => h.hw.at (h3 w hw).1 (h3 w hw).2 args) (fun w hw => hw) h.ho h.hK h.hP a (pw_at hM) h1 f h2 (h.hw.at h4 rfl args) (fun x hx => by rw [← h5]; exact hx) (by rw [List.getElem?_map, hv]; rfl) hd (kk D cA ad p e s m args below meth c A locs H ls h)
/-- .. and a store -/
def FS (own nm : String) (index ci f : Nat) (ty : FieldType) : Prop := ∃ (C : String) (T : u_T) (N : Nat) (ref : String) (ty0 : Nat → FieldType), vwCl[ci]? = some (C, T, N) ∧ f < N ∧ (∀ w ∈ u_ws C T N, w ∈ lw_tbl ∧ okw w = true) ∧ Cond.fieldLink own index ref (T f).2.1 (T f).2.2.1 ∈ lw_tbl ∧ (T f).1 = ref ∧
  (∀ j, j < N → parseFieldDescriptor (T j).2.2.1 = some (ty0 j)) ∧ (∀ a, a < N → ∀ b, b < N → a ≠ b → (T a).2.1 ≠ (T b).2.1) ∧ ty0 f = ty ∧ ((T f).2.2.2 = false ∨ ((T f).2.2.2 = true ∧ nm = "<init>" ∧ (T f).1 = own))
theorem Cx.hnm {D : va_G} {cA ad : Nat → Nat} {p : Program} {s : State} {m : MethodId} {args : Array Value} {meth : Method} {c : Code} {A : Nat → Prop} {locs : List Loc} {H : Heap} {ls : Array Slot} (h : Cx I D cA ad p s m args meth c A locs H ls lv M) : meth.name = I.nm := h.2.2.2.2.2.1
theorem pv_narrow {ad : Nat → Nat} {ty : FieldType} {v : Value} (h : narrow ty v = v) : narrow ty (pv ad v) = pv ad v := by
  cases v <;> first | exact h | (cases ty <;> first | rfl | simp_all [narrow, pv])
theorem pv_fits {ad : Nat → Nat} {ty : FieldType} {v : Value} (h : fits ty v = true) : fits ty (pv ad v) = true := by
  cases v <;> first | exact h | (cases ty <;> simp_all [fits, pv])
theorem J.putfield {a index ci f : Nat} {ty : FieldType} {fs : List Value} {v : Value} {r : List Value} (hd : decode I.cc pc = .ok (.putfield index, 3)) (hF : FS I.own I.nm index ci f ty) (hM : M[a]? = some (.inr (ci, fs))) (hl : f < fs.length) (hn : narrow ty v = v) (hf : fits ty v = true) (kk : J l I (pc + 3) lv r (M.set a (.inr (ci, fs.set f v))) k n out) : J l I pc lv (v :: .ref a :: r) M k n out := by
  intro D cA ad p e s m args below meth c A locs H ls h
  obtain ⟨C, T, N, ref, ty0, h1, h2, h3, h4, h5, h6, h7, h8, h9⟩ := hF
  have e1 := pw_set (ad := ad) (cA := cA) (M := M) (k := a) (e := .inr (ci, fs.set f v))
  have e2 : pe ad cA (.inr (ci, fs.set f v)) = .inr (ci, (fs.map (pv ad)).set f (pv ad v)) := by simp [pe, List.map_set]
  rw [e2] at e1
  have key : ∀ (H1 : Heap) (locs1 : List Loc), va_P D vwCl ((pw ad cA M).set a (ad a, .inr (ci, (fs.map (pv ad)).set f (pv ad v)))) H1 → va_D A ((pw ad cA M).set a (ad a, .inr (ci, (fs.map (pv ad)).set f (pv ad v)))) → va_S A s.heap H1 locs1 →
      W p l e I.rm s m args below meth c H1 locs1 k n (JQ D cA ad M.length A I.mc I.ms below args s out) (F0 m (pc + 3) ls (r.map (pv ad))) := by
    intro H1 locs1 hP hD hS
    have := kk D cA ad p e s m args below meth c A locs1 H1 ls (h.hp (e1 ▸ hP) (e1 ▸ hD) hS)
    rw [jq_len] at this
    exact this
  rcases h9 with h9 | ⟨h9, h10, h11⟩
  · exact va_put (D := D) (ci := ci) (v := pv ad v) (ty := ty) (C := C) (T := T) (N := N) h.hx h.hb (Ts := u_ws C T N) (fun w hw => h.hw.at (h3 w hw).1 (h3 w hw).2 args) (fun w hw => hw) ty0 h6 h7 h.ho h.hK h.hP h.hD h.hS a (pw_at hM) h1 f h2 (h.hw.at h4 rfl args) (fun x hx => by rw [← h5]; exact hx) h9 (by rw [h6 f h2, h8]) (pv_narrow hn) (pv_fits hf) (by rw [List.length_map]; exact hl) hd key
  · exact va_putF (D := D) (ci := ci) (v := pv ad v) (ty := ty) (C := C) (T := T) (N := N) h.hx h.hb (Ts := u_ws C T N) (fun w hw => h.hw.at (h3 w hw).1 (h3 w hw).2 args) (fun w hw => hw) ty0 h6 h7 h.ho h.hK h.hP h.hD h.hS a (pw_at hM) h1 f h2 (h.hw.at h4 rfl args) (fun x hx => by rw [← h5]; exact hx) h9 (h.hnm.trans h10) h11 (by rw [h6 f h2, h8]) (pv_narrow hn) (pv_fits hf) (by rw [List.length_map]; exact hl) hd key
/-- ends -/
theorem Qr.mk' {D : va_G} {cA ad : Nat → Nat} {p : Program} {s : State} {m : MethodId} {args : Array Value} {meth : Method} {c : Code} {A : Nat → Prop} {locs : List Loc} {H : Heap} {ls : Array Slot} {e : Env} {below : List Frame} {v : Option Value} (h : Cx I D cA ad p s m args meth c A locs H ls lv M) (t : State) (ht : t.heap = H) (hW : s.WarmedH t.vm) : Qr D cA ad M.length A (v, M) args s (.returned (v.map (pv ad))) t :=
  ⟨⟨ad, fun _ _ => rfl, fun _ => rfl, Nat.le_refl _, rfl, by rw [ht]; exact h.hP, va_K.moved hW.alike h.hK, h.hD⟩, h.hS.F ht⟩
theorem J.ireturn {v : Int32} (hd : decode I.cc pc = .ok (.ireturn, 1)) (hr : I.ret = some .int) (hk : k ≤ I.mc) (hn : n ≤ I.ms) : J l I pc lv [.int v] M k n (.inl (some (.int v), M)) := by
  intro D cA ad p e s m args below meth c A locs H ls h
  refine W.widen hk hn ?_
  exact W.iret h.hx h.hb (h.2.2.2.1.trans hr) (fun t ht hW => Qr.mk' (e := e) (below := below) (v := some (.int v)) h t ht hW) h.hS.2.2 hd h.2.2.2.2.1
theorem J.zreturn {v : Int32} (hd : decode I.cc pc = .ok (.ireturn, 1)) (hr : I.ret = some .boolean) (hv : narrow .boolean (.int v) = .int v) (hk : k ≤ I.mc) (hn : n ≤ I.ms) : J l I pc lv [.int v] M k n (.inl (some (.int v), M)) := by
  intro D cA ad p e s m args below meth c A locs H ls h
  refine W.widen hk hn ?_
  exact W.zret h.hx h.hb (h.2.2.2.1.trans hr) hv (fun t ht hW => Qr.mk' (e := e) (below := below) (v := some (.int v)) h t ht hW) h.hS.2.2 hd h.2.2.2.2.1
theorem J.vreturn (hd : decode I.cc pc = .ok (.return_, 1)) (hr : I.ret = none) (hk : k ≤ I.mc) (hn : n ≤ I.ms) : J l I pc lv [] M k n (.inl (none, M)) := by
  intro D cA ad p e s m args below meth c A locs H ls h
  refine W.widen hk hn ?_
  exact W.vret h.hx h.hb (h.2.2.2.1.trans hr) (fun t ht hW => Qr.mk' (e := e) (below := below) (v := none) h t ht hW) h.hS.2.2 hd h.2.2.2.2.1
end RULES
end
section
section CALLS
variable {l : Launch} {I I' : MI} {pc : Nat} {lv : List (Nat × Value)} {M : List va_E} {k n : Nat} {out : Out}
/-- what a callee may change is what the caller may -/
theorem free_in {D : va_G} {cA ad : Nat → Nat} {p : Program} {s : State} {m : MethodId} {args : Array Value} {meth : Method} {c : Code} {A : Nat → Prop} {locs : List Loc} {H : Heap} {ls : Array Slot} (h : Cx I D cA ad p s m args meth c A locs H ls lv M) : ∀ q, va_A (pw ad cA M) H.size q → A q := by
  intro q hq
  rcases hq with ⟨j, e, hj⟩ | hq
  · exact h.hD.2 j (q, e) hj
  · exact h.hA q (Nat.le_trans h.hS.1 hq)
theorem ZZ_here {D : va_G} {cA ad : Nat → Nat} {p : Program} {s : State} {m : MethodId} {args : Array Value} {meth : Method} {c : Code} {A : Nat → Prop} {locs : List Loc} {H : Heap} {ls : Array Slot} (h : Cx I D cA ad p s m args meth c A locs H ls lv M) : ZZ (va_A (pw ad cA M) H.size) s H :=
  (h.hZ.kept h.hS.1 h.hS.2.1).narrow (fun q _ hq => free_in h q hq)
/-- the start of a callee, from here -/
theorem Ps_here {D : va_G} {cA ad : Nat → Nat} {p : Program} {s : State} {m : MethodId} {args : Array Value} {meth : Method} {c : Code} {A : Nat → Prop} {locs : List Loc} {H : Heap} {ls : Array Slot} (h : Cx I D cA ad p s m args meth c A locs H ls lv M) (as : List Value) :
    FrameBlind (Ps D cA ad as M H.size) ∧ ∀ U : State, U.heap = H → s.WarmedH U.vm → Ps D cA ad as M H.size (as.map (pv ad)).toArray U := by
  refine ⟨fun a U g mk q => ?_, fun U hU hW => ⟨rfl, by rw [hU], by rw [hU]; exact h.hP, va_K.moved hW.alike h.hK, h.hD.weaken (fun _ _ _ _ => trivial), by rw [hU]; exact (ZZ_here h).moved hW.alike, h.hw.moved hW⟩⟩
  obtain ⟨q0, q1, qP, qK, qD, qZ, qN⟩ := q
  exact ⟨q0, q1, qP, va_K.moved (u := U) (U := U.calling g mk a) (Vm.Alike.refl U.vm) qK, qD, qZ.moved (U := U.calling g mk a) (Vm.Alike.refl U.vm), qN.moved (U := U.calling g mk a) (State.WarmedH.refl U)⟩
/-- behind a call that returned -/
theorem J.behind {rest : List Value} {r : Option Value} {M' : List va_E} {st0 : List Value}
    (hr : ∀ (D : va_G) (cA ad : Nat → Nat) (p : Program) (e : Env) (s : State) (m : MethodId) (args : Array Value) (below : List Frame) (meth : Method) (c : Code) (A : Nat → Prop) (locs : List Loc) (H : Heap) (ls : Array Slot), Cx I D cA ad p s m args meth c A locs H ls lv M →
      ∃ a, va_Run p l e I.rm s m args below meth c H locs k n I'.mc I'.ms (F0 m pc ls (st0.map (pv ad))) (rest.map (pv ad)) (Qr D cA ad M.length (va_A (pw ad cA M) H.size) (r, M') a) (va_A (pw ad cA M) H.size))
    (hok : M'.length = M.length ∨ (M.length ≤ M'.length ∧ lv.all (fun q => pok M.length q.2) = true ∧ rest.all (pok M.length) = true))
    (kk : J l I (pc + 3) lv (r.toList ++ rest) M' (k + I'.mc) (n + I'.ms) out) : J l I pc lv st0 M k n out := by
  intro D cA ad p e s m args below meth c A locs H ls h T hT X
  obtain ⟨a, hrun⟩ := hr D cA ad p e s m args below meth c A locs H ls h
  obtain ⟨v, st₀, t, T', L, h0, X', hL, e1, e2, ⟨⟨ad', g1, g2, g3, g4, g5, g6, g7⟩, hF⟩, st⟩ := hrun T hT X
  have hfr := free_in h
  rw [← e1] at g5
  have hSz : H.size ≤ T'.heap.size := by rw [e1, ← h0]; exact hF.1
  have hk1 : ∀ q : Nat, q < H.size → ¬ A q → T'.heap[q]? = H[q]? := by
    intro q g h9
    rw [e1, ← h0]
    exact hF.2 q (by rw [h0]; exact g) (fun z => h9 (hfr q z))
  have hS' : va_S A s.heap T'.heap (locs ++ L) := by
    refine ⟨Nat.le_trans h.hS.1 hSz, fun q h1 h2 => (hk1 q (Nat.lt_of_lt_of_le h1 h.hS.1) h2).trans (h.hS.2.1 q h1 h2), fun q hq => ?_⟩
    rcases List.mem_append.mp hq with z | z
    · exact h.hS.2.2 q z
    · exact hfr _ (hL q z)
  have hD' : va_D A (pw ad' cA M') := g7.weaken (fun j q _ hq => hfr _ hq)
  have hv : v = r.map (pv ad') := Outcome.returned.inj g4
  have key : lv.map (fun q => (q.1, pv ad' q.2)) = lv.map (fun q => (q.1, pv ad q.2)) ∧ rest.map (pv ad') = rest.map (pv ad) := by
    rcases hok with ho | ⟨-, ho, hp⟩
    · rw [g2 ho]; exact ⟨rfl, rfl⟩
    · refine ⟨List.map_congr_left fun q hq => ?_, pv_eqL g1 hp⟩
      rw [pv_eq g1 (List.all_eq_true.mp ho q hq)]
  obtain ⟨a1, a2, a3, a4, a5, a6, a7, a8, a9, a10, -, -, -, a14, a15, a16⟩ := h
  have hCx : Cx I D cA ad' p s m args meth c A (locs ++ L) T'.heap ls lv M' := ⟨a1, a2, a3, a4, a5, a6, a7, a8, a9, a10, g5, hD', hS', a14, a15, by rw [key.1]; exact a16⟩
  obtain ⟨t2, b1, b2⟩ := kk D cA ad' p e s m args below meth c A (locs ++ L) T'.heap ls hCx T' rfl X'
  refine ⟨t2, st t2 ?_, ?_⟩
  · have : ((r.toList ++ rest).map (pv ad')) = v.toList ++ rest.map (pv ad) := by
      rw [List.map_append, key.2, hv]; cases r <;> rfl
    rw [this] at b1
    exact b1
  · cases out with
    | inl r2 =>
      obtain ⟨o, c1, c2, ⟨⟨ad2, d1, d2, d3, d4⟩, c4⟩, c5⟩ := b2
      refine ⟨o, c1, c2, ⟨⟨ad2, fun i hi => (d1 i (Nat.lt_of_lt_of_le hi g3)).trans (g1 i hi), fun hz => ?_, Nat.le_trans g3 d3, d4⟩, c4⟩, c5⟩
      have : M'.length = M.length := Nat.le_antisymm (Nat.le_trans d3 (Nat.le_of_eq hz)) g3
      rw [d2 (hz.trans this.symm), g2 this]
    | inr r2 =>
      obtain ⟨o, c1, c2, ⟨ad2, d1, d2, d3, d4⟩, c4⟩ := b2
      refine ⟨o, c1, c2, ⟨ad2, fun i hi => (d1 i (Nat.lt_of_lt_of_le hi g3)).trans (g1 i hi), fun hz => ?_, Nat.le_trans g3 d3, d4⟩, c4⟩
      have : M'.length = M.length := Nat.le_antisymm (Nat.le_trans d3 (Nat.le_of_eq hz)) g3
      rw [d2 (hz.trans this.symm), g2 this]
/-- what a call links: the callee's own words, its room within the caller's -/
def CB (I I' : MI) (na : Nat) : Prop := I'.rm.cells = I'.mc ∧ I'.rm.slots = I'.ms ∧ I'.rm.frames + 1 ≤ I.rm.frames ∧ 8 + (I'.nL + 11) + I'.rm.locals ≤ I.rm.locals ∧ I'.ws = [Cond.code I'.y I'.cc I'.nL I'.ret] ∧ Cond.code I'.y I'.cc I'.nL I'.ret ∈ lw_tbl ∧ Cond.initialized I'.y.cls ∈ lw_tbl ∧ (I'.y.cls ≠ "java/lang/invoke/MethodHandle" ∧ I'.y.cls ≠ "java/lang/invoke/VarHandle") ∧ (parseMethodDescriptor I'.y.desc).map (fun d => d.parameters.length) = some na
theorem CB.ws {na : Nat} (h : CB I I' na) {s : State} (hN : NW s) : ∀ w ∈ I'.ws, ∀ (a' : Array Value) (U : State), s.WarmedH U.vm → w.before a' U = true := by
  intro w hw a' U hW
  rw [h.2.2.2.2.1, List.mem_singleton] at hw
  subst hw
  exact hN.1 U a' hW _ h.2.2.2.2.2.1 rfl
theorem CB.arity {na : Nat} (h : CB I I' na) : ∀ sig, parseMethodDescriptor I'.y.desc = some sig → na = sig.parameters.length := by
  intro sig hs
  have := h.2.2.2.2.2.2.2.2
  rw [hs] at this
  exact (Option.some.inj this).symm
theorem CB.mem {na : Nat} (h : CB I I' na) : Cond.code I'.y I'.cc I'.nL I'.ret ∈ I'.ws := by rw [h.2.2.2.2.1]; exact List.mem_singleton_self _
theorem CB.to {na index : Nat} (h : CB I I' na) {s : State} (hN : NW s) (args : Array Value) (hl : Cond.methodLink I.own index I'.y ∈ lw_tbl) : CallB I.rm s args I.own index I'.y I'.cc I'.nL I'.ret I'.ws I'.rm I'.mc I'.ms na :=
  ⟨h.1, h.2.1, h.2.2.1, h.2.2.2.1, h.ws hN, h.mem, hN.at h.2.2.2.2.2.1 rfl args, hN.at h.2.2.2.2.2.2.1 rfl args, h.2.2.2.2.2.2.2.1, h.arity, hN.at hl rfl args⟩
def CallV (I I' : MI) (C : String) (index : Nat) (na : Nat) : Prop := CB I I' na ∧ Cond.methodLink I.own index I'.y ∈ lw_tbl ∧ Cond.instanceMethod I'.y ∈ lw_tbl ∧ Cond.selects C I'.y I'.y ∈ lw_tbl
def CallS (I I' : MI) (index : Nat) (na : Nat) : Prop := CB I I' na ∧ Cond.methodLink I.own index I'.y ∈ lw_tbl ∧ Cond.static I'.y ∈ lw_tbl
def CallSN (I I' : MI) (index : Nat) (na : Nat) (host : String) : Prop := CB I I' na ∧ Cond.methodLinkNest I.own index I'.y host ∈ lw_tbl ∧ Cond.static I'.y ∈ lw_tbl
def CallI (I I' : MI) (index : Nat) (na : Nat) : Prop := CB I I' na ∧ Cond.methodLink I.own index I'.y ∈ lw_tbl ∧ I'.y.name = "<init>" ∧ Cond.instanceMethod I'.y ∈ lw_tbl ∧ I'.ret = none
/-- words under a call -/
def wsum (r : List Value) : Nat := (r.map fun v => v.category).sum
theorem wsum_pv (ad : Nat → Nat) (r : List Value) : ((r.map (pv ad)).map fun v => v.category).sum = wsum r := by
  unfold wsum
  rw [List.map_map]
  congr 1
  exact List.map_congr_left fun v _ => pv_cat ad v
theorem map_rev (ad : Nat → Nat) (as rest : List Value) : (as.reverse ++ rest).map (pv ad) = (as.map (pv ad)).reverse ++ rest.map (pv ad) := by simp
theorem J.invokestatic {index na : Nat} {as rest : List Value} {r : Option Value} {M' : List va_E} (hC : Con l I' as M (.inl (r, M'))) (hc : CallS I I' index na) (hd : decode I.cc pc = .ok (.invokestatic index, 3)) (hna : as.length = na) (hw : wsum rest ≤ 8) (hf : k + I'.mc ≤ I.rm.cells ∧ n + I'.ms ≤ I.rm.slots)
    (hok : M'.length = M.length ∨ (M.length ≤ M'.length ∧ lv.all (fun q => pok M.length q.2) = true ∧ rest.all (pok M.length) = true))
    (kk : J l I (pc + 3) lv (r.toList ++ rest) M' (k + I'.mc) (n + I'.ms) out) : J l I pc lv (as.reverse ++ rest) M k n out := by
  refine J.behind (I' := I') (rest := rest) (r := r) (M' := M') (fun D cA ad p e s m args below meth c A locs H ls h => ⟨(as.map (pv ad)).toArray, ?_⟩) hok kk
  exact va_runS (As := as.map (pv ad)) (rest := rest.map (pv ad)) (Ts := []) ⟨h.hx, h.hb, h.2.2.1, h.ho, fun _ hw => nomatch hw⟩ (hC D cA ad H.size) ⟨hc.1.to h.hw args hc.2.1, h.hw.at hc.2.2 rfl args⟩ (Ps_here h as) rfl (by rw [List.length_map]; exact hna) h.hl.1 (map_rev ad as rest) (by show 2 * 0 + _ ≤ 8; rw [wsum_pv]; omega) hd hf
theorem J.invokestaticN {index na : Nat} {host : String} {as rest : List Value} {r : Option Value} {M' : List va_E} (hC : Con l I' as M (.inl (r, M'))) (hc : CallSN I I' index na host) (hd : decode I.cc pc = .ok (.invokestatic index, 3)) (hna : as.length = na) (hw : wsum rest ≤ 8) (hf : k + I'.mc ≤ I.rm.cells ∧ n + I'.ms ≤ I.rm.slots)
    (hok : M'.length = M.length ∨ (M.length ≤ M'.length ∧ lv.all (fun q => pok M.length q.2) = true ∧ rest.all (pok M.length) = true))
    (kk : J l I (pc + 3) lv (r.toList ++ rest) M' (k + I'.mc) (n + I'.ms) out) : J l I pc lv (as.reverse ++ rest) M k n out := by
  refine J.behind (I' := I') (rest := rest) (r := r) (M' := M') (fun D cA ad p e s m args below meth c A locs H ls h => ⟨(as.map (pv ad)).toArray, ?_⟩) hok kk
  have hb := hc.1
  exact va_runSN (As := as.map (pv ad)) (rest := rest.map (pv ad)) (host := host) (Ts := []) ⟨h.hx, h.hb, h.2.2.1, h.ho, fun _ hw => nomatch hw⟩ (hC D cA ad H.size) ⟨⟨⟨hb.1, hb.2.1, hb.2.2.1, hb.2.2.2.1, hb.ws h.hw, hb.mem⟩, h.hw.at hb.2.2.2.2.2.1 rfl args, h.hw.at hb.2.2.2.2.2.2.1 rfl args, hb.2.2.2.2.2.2.2.1, hb.arity, h.hw.at hc.2.1 rfl args⟩, h.hw.at hc.2.2 rfl args, trivial⟩ (Ps_here h as) rfl (by rw [List.length_map]; exact hna) h.hl.1 (map_rev ad as rest) (by show 2 * 0 + _ ≤ 8; rw [wsum_pv]; omega) hd hf
theorem J.invokevirtual {index na b ci : Nat} {fs : List Value} {C : String} {T : u_T} {N : Nat} {as rest : List Value} {r : Option Value} {M' : List va_E} (hC : Con l I' (.ref b :: as) M (.inl (r, M'))) (hc : CallV I I' C index na) (hd : decode I.cc pc = .ok (.invokevirtual index, 3)) (hM : M[b]? = some (.inr (ci, fs))) (hcl : vwCl[ci]? = some (C, T, N)) (hna : as.length = na) (hw : wsum rest ≤ 8) (hf : k + I'.mc ≤ I.rm.cells ∧ n + I'.ms ≤ I.rm.slots)
    (hok : M'.length = M.length ∨ (M.length ≤ M'.length ∧ lv.all (fun q => pok M.length q.2) = true ∧ rest.all (pok M.length) = true))
    (kk : J l I (pc + 3) lv (r.toList ++ rest) M' (k + I'.mc) (n + I'.ms) out) : J l I pc lv (as.reverse ++ .ref b :: rest) M k n out := by
  refine J.behind (I' := I') (rest := rest) (r := r) (M' := M') (fun D cA ad p e s m args below meth c A locs H ls h => ⟨((Value.ref b :: as).map (pv ad)).toArray, ?_⟩) hok kk
  obtain ⟨p1, p2⟩ := Ps_here h (.ref b :: as)
  exact va_runV (As := as.map (pv ad)) (rest := rest.map (pv ad)) (b := ad b) (C := C) (Ts := []) ⟨h.hx, h.hb, h.2.2.1, h.ho, fun _ hw => nomatch hw⟩ (hC D cA ad H.size) ⟨hc.1.to h.hw args hc.2.1, h.hw.at hc.2.2.1 rfl args, h.hw.at hc.2.2.2 rfl args⟩ ⟨p1, va_recv h.hK h.hP hcl (pw_at hM), p2⟩ rfl (by rw [List.length_map]; exact hna) h.hl.1 (map_rev ad as (.ref b :: rest)) (by show 2 * 0 + _ ≤ 8; rw [wsum_pv]; omega) hd hf
theorem J.invokespecial {index na b : Nat} {as rest : List Value} {r : Option Value} {M' : List va_E} (hC : Con l I' (.ref b :: as) M (.inl (r, M'))) (hc : CallI I I' index na) (hd : decode I.cc pc = .ok (.invokespecial index, 3)) (hna : as.length = na) (hw : wsum rest ≤ 8) (hf : k + I'.mc ≤ I.rm.cells ∧ n + I'.ms ≤ I.rm.slots)
    (hok : M'.length = M.length ∨ (M.length ≤ M'.length ∧ lv.all (fun q => pok M.length q.2) = true ∧ rest.all (pok M.length) = true))
    (kk : J l I (pc + 3) lv (r.toList ++ rest) M' (k + I'.mc) (n + I'.ms) out) : J l I pc lv (as.reverse ++ .ref b :: rest) M k n out := by
  refine J.behind (I' := I') (rest := rest) (r := r) (M' := M') (fun D cA ad p e s m args below meth c A locs H ls h => ⟨((Value.ref b :: as).map (pv ad)).toArray, ?_⟩) hok kk
  obtain ⟨p1, p2⟩ := Ps_here h (.ref b :: as)
  exact va_runI (As := as.map (pv ad)) (rest := rest.map (pv ad)) (b := ad b) (Ts := []) ⟨h.hx, h.hb, h.2.2.1, h.ho, fun _ hw => nomatch hw⟩ (hC D cA ad H.size) ⟨hc.2.2.2.2 ▸ hc.1.to h.hw args hc.2.1, hc.2.2.1, h.hw.at hc.2.2.2.1 rfl args⟩ ⟨p1, p2⟩ rfl (by rw [List.length_map]; exact hna) h.hl.1 (map_rev ad as (.ref b :: rest)) (by show 2 * 0 + _ ≤ 8; rw [wsum_pv]; omega) hd hf
theorem args_map (ad : Nat → Nat) : ∀ (as : List Value) (i : Nat), lv_args i (as.map (pv ad)) = (lv_args i as).map (fun q => (q.1, pv ad q.2))
  | [], _ => rfl
  | v :: vs, i => by
    simp only [List.map_cons, lv_args, pv_cat]
    rw [args_map ad vs]
theorem sl_len (ad : Nat → Nat) : ∀ (as : List Value), (lg_sl (as.map (pv ad))).length = (lg_sl as).length
  | [] => rfl
  | v :: vs => by
    have ih := sl_len ad vs
    simp only [lg_sl, List.map_cons, List.flatMap_cons, List.length_append, pv_cat] at ih ⊢
    rw [ih]
    split <;> rfl
/-- a method's body begins -/
theorem Cx.begin {as : List Value} {cc : ByteArray} {maxL : Nat} {ret : Option FieldType} {S : Spec} (hS0 : S = headSpec I.ws I.rm) (hc1 : cc = I.cc) (hc2 : maxL = I.nL) (hc3 : ret = I.ret) (hw : I.ws = [Cond.code I.y I.cc I.nL I.ret]) (ho : I.own = I.y.cls) (hnm : I.nm = I.y.name) (htab : I.tab = []) (hlen : (lg_sl as).length ≤ I.nL)
    {D : va_G} {cA ad : Nat → Nat} {sz : Nat} {p : Program} {e : Env} {s : State} {m : MethodId} {args : Array Value} {below : List Frame} {meth : Method} {c : Code} {s₁ : State} (B : BodyLoose p l I.y S cc maxL ret e s m args below meth c s₁) (hml : c.maxLocals = maxL) (hv : Ps D cA ad as M sz args s) :
    ∃ ls, entryFrame m args maxL = F0 m 0 ls [] ∧ Cx I D cA ad p s m args meth c (va_A (pw ad cA M) sz) [] s.heap ls (lv_args 0 as) M := by
  subst hc1 hc2 hc3 hS0
  obtain ⟨hargs, hsz, hP, hK, hD0, hZ, hN⟩ := hv
  have hts := atoms_spec (ws := I.ws) B.pre
  have htb : c.exceptionTable.toList = [] := by
    obtain ⟨meth9, c9, h1, h2, -, -, -, -, h7, -⟩ := Cond.code_spec B.named (hts _ (by rw [hw]; exact List.mem_cons_self))
    cases Option.some.inj (h1.symm.trans B.method)
    cases Option.some.inj (h2.symm.trans (Stand.of_body B).code)
    rw [Array.isEmpty_iff.mp h7]
  have hl := lv_entry (as.map (pv ad)) (n := I.nL) (by rw [sl_len]; exact hlen)
  rw [args_map] at hl
  refine ⟨_, by rw [hargs]; exact lg_entry_eq _ _ _, B.exec, B.bytes, hml, B.returns, B.notSynchronized, ?_, htb.trans htab.symm, hN, ?_, hK, hP, ?_, va_S.rf, ?_, ?_, hl⟩
  · rw [hnm]; exact (name_of_methodNamed B.named B.method).1
  · rw [ho]; exact findClass_of_methodNamed B.named
  · exact hD0.self
  · intro q hq; rw [← hsz]; exact Or.inr hq
  · exact hZ
/-- a contract out of a walk -/
theorem Con.ofJ {as : List Value} (hy : plainName I.y.cls = true) (hw : I.ws = [Cond.code I.y I.cc I.nL I.ret]) (ho : I.own = I.y.cls) (hnm : I.nm = I.y.name) (htab : I.tab = []) (hlen : (lg_sl as).length ≤ I.nL)
    (hJ : J l I 0 (lv_args 0 as) [] M 0 0 out) : Con l I as M out := by
  cases out with
  | inl r =>
    intro D cA ad sz
    refine Met.ofW (cc := I.cc) (maxL := I.nL) (ret := I.ret) hy hw ?_
    intro p e s m args below meth c s₁ B hml hv
    obtain ⟨ls, e1, hCx⟩ := Cx.begin rfl rfl rfl rfl hw ho hnm htab hlen B hml hv
    rw [e1]
    exact hJ D cA ad p e s m args below meth c _ [] s.heap ls hCx
  | inr r =>
    intro D cA ad sz
    refine MetFree.of_bodyS (code := I.cc) (maxLocals := I.nL) (ret := I.ret) hy ?_ ?_
    · intro args s m h hn
      obtain ⟨meth, c, h1, h2, h3, h4, h5, h6, -, -⟩ := Cond.code_spec hn (atoms_spec (ws := I.ws) h _ (by rw [hw]; exact List.mem_cons_self))
      exact ⟨meth, c, h1, h2, h3, h4, h5, h6⟩
    · intro p e s m args below meth c s₁ B hml hv _
      obtain ⟨ls, e1, hCx⟩ := Cx.begin rfl rfl rfl rfl hw ho hnm htab hlen B hml hv
      have hh0 : s₁.heap = s.heap := by rw [B.state]; rfl
      obtain ⟨t, a1, o, b1, b2, b3⟩ := hJ D cA ad p e s m args below meth c _ [] s.heap ls hCx s₁ hh0 (Stand.of_body B)
      rw [e1]
      exact ⟨t, o, a1, b1, b2, b3⟩
end CALLS
end
section
section THROWS
variable {l : Launch} {R : Room} {p : Program} {e : Env} {below : List Frame} {s : State} {sargs : Array Value} {y : MethodName} {len W9 : Nat}
/-- a callee that throws, seen from a caller's frame -/
def BackT (l : Launch) (R : Room) (p : Program) (e : Env) (below : List Frame) (s : State) (sargs : Array Value) (y : MethodName) (len W9 : Nat) (Pre : Pt → Array Value → Prop) (PostT : Pt → Array Value → Addr → Pt → Prop) : Prop :=
  ∀ (m : MethodId) (meth : Method) (c : Code) (A : Pt) (g : JFrame) (ig : Instr) (mk : MethodId) (a : Array Value),
    Stand p l e R s m sargs below meth c A.U A.locs A.cells A.slots → g.method = m → g.locals.size = c.maxLocals → decode c.code g.pc = .ok (ig, len) →
    2 * g.monitorRoom + (g.stack.map fun v => v.category).sum ≤ W9 → A.U.methodNamed? y = some mk → Pre A a →
    ∃ (q : Addr) (B : Pt), Stand p l e R s m sargs below meth c B.U B.locs B.cells B.slots ∧ PostT A a q B ∧
      Steps p.tables e below (doInvoke e (A.U.setTop g) [] mk a).1 ((B.U.setTop g).pushFrame (.throwing q))
def PostTOf (Q : Array Value → State → Outcome → State → Prop) (mc ms : Nat) (free : Addr → Prop) : Pt → Array Value → Addr → Pt → Prop := fun A a q B =>
  ∃ (g : JFrame) (mk : MethodId) (t : State) (L : List Loc), B.U.heap = t.heap ∧ B.U.vm = t.vm ∧ Q a (A.U.calling g mk a) (.threw q) t ∧ B.locs = A.locs ++ L ∧ (∀ z ∈ L, free z.base) ∧ B.cells = A.cells + mc ∧ B.slots = A.slots + ms
theorem backT_of {ws : List Cond} {rm : Room} {Pc : Array Value → State → Prop} {Q : Array Value → State → Outcome → State → Prop} {mc ms : Nat} {free : Addr → Prop} {bytes : ByteArray} {maxL : Nat} {ret : Option FieldType}
    (hM : MetFree l y (headSpec ws rm) Pc (fun _ _ _ _ _ => True) Q) (hblind : FrameBlind Pc) (hrc : rm.cells = mc) (hrs : rm.slots = ms)
    (hframes : rm.frames + 1 ≤ R.frames) (hlocals : W9 + (maxL + 11) + rm.locals ≤ R.locals)
    (hws : ∀ w ∈ ws, ∀ (a' : Array Value) (U : State), s.WarmedH U.vm → w.before a' U = true) (hcode : Cond.code y bytes maxL ret ∈ ws) (hinit : ∀ (a' : Array Value) (U : State), s.WarmedH U.vm → (Cond.initialized y.cls).before a' U = true)
    (hQ : ∀ a st o t, Q a st o t → ∃ (q : Addr) (L : List Loc), o = .threw q ∧ st.WarmedH t.vm ∧ st.sameButNew ({ t with vm := st.vm } : State) L mc ms ∧ ∀ z ∈ L, free z.base) :
    BackT l R p e below s sargs y len W9 (PreOf R mc ms Pc) (PostTOf Q mc ms free) := by
  intro m meth c A g ig mk a X hg hsize hdg hW hn hp
  obtain ⟨U, Ls, c0, s0⟩ := A
  dsimp only [Pt.U, Pt.locs, Pt.cells, Pt.slots, PreOf] at X hn hp ⊢
  have h1 : (headSpec ws rm).pre.before a U = true := atoms_intro fun w hw => hws w hw _ _ X.warmed
  have h2 : (Cond.code y bytes maxL ret).before a U = true := hws _ hcode _ _ X.warmed
  obtain ⟨methY, cY, hmY, hcY, -, hlY, -, -, -, -⟩ := Cond.code_spec hn h2
  obtain ⟨kY, hkY, -⟩ := className_of_methodNamed hn
  have hinitY : kY.init = .initialized := Cond.initialized_spec (findClass_of_methodNamed hn) hkY (hinit a U X.warmed)
  have h : At U g.method c below := by rw [hg]; exact X.here
  have happ : (headSpec ws rm).appliesLoose y e.platform (U.calling g mk a) = true :=
    Spec.appliesLoose_calling (g := g) h hdg hn hkY hinitY
      (X.room_calling (g := g) (R' := (headSpec ws rm).room) hsize hmY hcY hframes (by rw [hlY]; show _ + rm.locals ≤ _; omega) (by show c0 + rm.cells ≤ _; rw [hrc]; exact hp.1) (by show s0 + rm.slots ≤ _; rw [hrs]; exact hp.2.1)) h1
  obtain ⟨mid, hmid⟩ := h.above
  have hfr : (U.setTop g).frames = (.java g :: mid) ++ below := by rw [State.frames_setTop' g h.top, hmid]; rfl
  obtain ⟨o, s₂, hsteps, -, hend, hq⟩ := Steps.callFree hM p X.admits X.cas X.clock (acts := []) hfr happ (hblind _ _ _ _ hp.2.2) trivial
  have hq' : Q a (U.calling g mk a) o s₂ := hq
  rw [State.frames_setTop' g h.top] at hend
  obtain ⟨q, L, rfl, hW₂, hsm, hL⟩ := hQ _ _ _ _ hq'
  obtain ⟨e2, q2, q3, q4, q5, q6⟩ := id hsm
  have e3 : s₂ = ({ (U.calling g mk a).setFrames s₂.frames with heap := s₂.heap, slotsUsed := s₂.slotsUsed } : State).setVm s₂.vm := by
    have : s₂ = ({ s₂ with vm := (U.calling g mk a).vm } : State).setVm s₂.vm := rfl
    rw [e2] at this
    exact this
  have hend' : s₂.frames = .throwing q :: .java g :: U.frames.tail := hend
  have hW' : U.WarmedH s₂.vm := hW₂
  obtain ⟨g₀, hg0⟩ := Option.isSome_iff_exists.mp h.top
  obtain ⟨r, hr⟩ := State.topJava?_eq_some.mp hg0
  have hs₂ : s₂ = ((({ U with heap := s₂.heap, slotsUsed := s₂.slotsUsed } : State).setVm s₂.vm).setTop g).pushFrame (.throwing q) := by
    have hr' : (({ U with heap := s₂.heap, slotsUsed := s₂.slotsUsed } : State).setVm s₂.vm).frames = .java g₀ :: r := hr
    rw [State.pushFrame, State.frames_setTop _ hr', State.setTop_of_frames _ hr', State.setFrames_setFrames]
    refine e3.trans ?_
    rw [hend', State.calling_eq h.top, State.setFrames_setFrames, hr]
    rfl
  have hsame : U.sameButNew ({ U with heap := s₂.heap, slotsUsed := s₂.slotsUsed } : State) L mc ms := by
    refine ⟨?_, q2, q3, q4, q5, q6⟩
    obtain ⟨t, ht, -⟩ := State.frames_cons hr
    show ({ U with heap := s₂.heap, slotsUsed := s₂.slotsUsed } : State) = { U.setFrames U.frames with heap := s₂.heap, slotsUsed := s₂.slotsUsed }
    rw [State.setFrames_self ht]
  subst hg
  refine ⟨q, ⟨(({ U with heap := s₂.heap, slotsUsed := s₂.slotsUsed } : State).setVm s₂.vm), Ls ++ L, c0 + mc, s0 + ms⟩,
    ⟨X.admits, X.cas, X.clock, X.frames, X.room, X.hears, X.method, X.code, (X.here.setHeapUsed s₂.heap s₂.slotsUsed).setVm hW'.alike, X.tail, State.WarmedH.trans X.warmed hW', X.limits, X.bytes, X.same.trans (hsame.setVm s.vm)⟩,
    ⟨g, mk, s₂, L, rfl, rfl, hq', rfl, hL, rfl, rfl⟩, ?_⟩
  show Steps p.tables e below _ (((({ U with heap := s₂.heap, slotsUsed := s₂.slotsUsed } : State).setVm s₂.vm).setTop g).pushFrame (.throwing q))
  rw [← hs₂]
  exact hsteps
section CALLT
variable {m : MethodId} {args : Array Value} {meth : Method} {c : Code} {T : State} {locs : List Loc} {cells slots : Nat}
theorem callVT (X : Stand p l e R s m args below meth c T locs cells slots) (hexec : p.tables.exec = Jvm.exec) {own C : String} {index : Nat} {bytes : ByteArray} {maxL : Nat} {ret : Option FieldType}
    (hown : s.vm.findClass own = some m.cls) (hlink : (Cond.methodLink own index y).before args s = true) (hinst : (Cond.instanceMethod y).before args s = true) (hsel : (Cond.selects C y y).before args s = true)
    (hcode : (Cond.code y bytes maxL ret).before args s = true) (hy : y.cls ≠ "java/lang/invoke/MethodHandle" ∧ y.cls ≠ "java/lang/invoke/VarHandle")
    {Pre : Pt → Array Value → Prop} {PostT : Pt → Array Value → Addr → Pt → Prop} (hK : BackT l R p e below s args y 3 W9 Pre PostT)
    {b : Addr} {cellB : Cell} (hcell : T.heap[b]? = some cellB) (hobj : cellB.vm.isStatics = false) (hcls : s.vm.findClass C = some cellB.cls)
    {g : JFrame} (hg : g.method = m) (hsize : g.locals.size = c.maxLocals) {argsL rest : List Value} (hlen : ∀ sig, parseMethodDescriptor y.desc = some sig → argsL.length = sig.parameters.length)
    (hstack : g.stack = argsL.reverse ++ .ref b :: rest) (hW : 2 * g.monitorRoom + (rest.map fun v => v.category).sum ≤ W9) (hdg : decode c.code g.pc = .ok (.invokevirtual index, 3))
    (hpre : ∀ vm₁, s.WarmedH vm₁ → Pre ⟨T.setVm vm₁, locs, cells, slots⟩ (Value.ref b :: argsL).toArray) :
    ∃ (q : Addr) (vm₁ : Vm) (B : Pt), s.WarmedH vm₁ ∧ Stand p l e R s m args below meth c B.U B.locs B.cells B.slots ∧ PostT ⟨T.setVm vm₁, locs, cells, slots⟩ (Value.ref b :: argsL).toArray q B ∧
      Steps p.tables e below (T.setTop g) ((B.U.setTop { g with stack := rest }).pushFrame (.throwing q)) := by
  obtain ⟨mk, methM, hnamed, hmethM, hstM, habM⟩ := Cond.instanceMethod_spec hinst
  obtain ⟨methM', cM, hmethM', -, -, -, -, -, -, hsigM⟩ := Cond.code_spec hnamed hcode
  cases hmethM.symm.trans hmethM'
  obtain ⟨c2, r2, m2, q1, q2, q3, q4, kP, hkP, hkPi⟩ := Cond.selects_spec hsel
  cases hcls.symm.trans q1
  cases (State.methodFound?_of_named hnamed hy).symm.trans q2
  cases hnamed.symm.trans q3
  have hselP : selectMethod e.platform s.vm cellB.cls mk = .method mk := by rw [Launch.admits_selectMethod X.admits]; exact q4
  obtain ⟨vm₁, X₁, hstep₁⟩ := X.invokevirtual hexec hown hlink hnamed hmethM hstM hkP hkPi hy (a := b) (cell := cellB) hcell
    (fun z h => by rw [h] at hobj; cases hobj) hselP hmethM habM hkP hkPi (g := g) hg (argsL := argsL) (rest := rest) (hlen _ hsigM) hstack hdg
  obtain ⟨q, B, X', hpost, hsteps⟩ := hK m meth c ⟨T.setVm vm₁, locs, cells, slots⟩ { g with stack := rest } (.invokevirtual index) mk (Value.ref b :: argsL).toArray X₁ hg hsize hdg hW (X₁.named hnamed) (hpre vm₁ X₁.warmed)
  exact ⟨q, vm₁, B, X₁.warmed, X', hpost, hstep₁ _ fun acts => by rw [doInvoke_state]; exact hsteps⟩
/-- the same frame, seen from the heap as it is now -/
theorem reb (X : Stand p l e R s m args below meth c T locs cells slots) {R' : Room} (hf : R'.frames ≤ R.frames) (hl : R'.locals ≤ R.locals) (hc : cells + R'.cells ≤ R.cells) (hs : slots + R'.slots ≤ R.slots) :
    Stand p l e R' ((T.setVm s.vm).setFrames (.invoking m args :: below)) m args below meth c T [] 0 0 := by
  have htop : (T.setVm s.vm).topJava?.isSome := X.here.top
  have hF : ((T.setVm s.vm).setFrames (.invoking m args :: below)).frames = .invoking m args :: below := State.frames_setFrames _ (State.cur_lt_of_top htop)
  obtain ⟨g₀, hg0⟩ := Option.isSome_iff_exists.mp htop
  obtain ⟨r, hr⟩ := State.topJava?_eq_some.mp hg0
  obtain ⟨tt, htt, -⟩ := State.frames_cons hr
  have hroom := X.room
  have hz := X.heapSize
  have hu := X.used
  have nil0 : T.heap.toList.drop T.heap.size = [] := List.drop_eq_nil_of_le (Nat.le_of_eq Array.length_toList)
  refine ⟨X.admits, X.cas, X.clock, hF, ?_, X.hears, X.method, X.code, X.here, X.tail, X.warmed, (State.stackLimits_setFrames .. ▸ rfl), (State.stackBytes_setFrames .. ▸ rfl), ?_⟩
  · have hU : ((T.setVm s.vm).setFrames (.invoking m args :: below)).localsInUse = s.localsInUse :=
      (State.localsInUse_invoking hF (meth := meth) (c := c) X.method X.code).trans (State.localsInUse_invoking X.frames X.method X.code).symm
    have e1 : e.platform.stackLimits (T.setVm s.vm).me = e.platform.stackLimits s.me := X.limits
    have e2 : (T.setVm s.vm).me.stackBytes = s.me.stackBytes := X.bytes
    have e3 : s.frames.length = below.length + 1 := by rw [X.frames]; rfl
    simp only [State.hasRoom, Bool.and_eq_true, decide_eq_true_eq, e3] at hroom
    simp only [State.hasRoom, Bool.and_eq_true, decide_eq_true_eq, hF, hU, List.length_cons, State.stackLimits_setFrames, State.stackBytes_setFrames, e1, e2]
    have b1 : ((T.setVm s.vm).setFrames (.invoking m args :: below)).heap.size = T.heap.size := rfl
    have b2 : ((T.setVm s.vm).setFrames (.invoking m args :: below)).slotsUsed = T.slotsUsed := rfl
    rw [b1, b2]
    obtain ⟨⟨⟨⟨r1, r2, r3, r4, r5, r6⟩, r7⟩, r8⟩, r9⟩ := hroom
    exact ⟨⟨⟨⟨by omega, by omega, by omega, by omega, by omega, r6⟩, by omega⟩, by omega⟩, X.book⟩
  · refine ⟨?_, Nat.le_refl _, Nat.le_refl _, ?_, ?_, fun a c9 h9 => ⟨c9, h9, rfl, rfl, fun _ _ => rfl⟩⟩
    · show T.setVm s.vm = { ((T.setVm s.vm).setFrames (.invoking m args :: below)).setFrames (T.setVm s.vm).frames with heap := T.heap, slotsUsed := T.slotsUsed }
      rw [State.setFrames_setFrames, State.setFrames_self htt]
      rfl
    · show T.slotsUsed = T.slotsUsed + ((T.heap.toList.drop T.heap.size).map (·.slots.size)).sum
      rw [nil0]; rfl
    · show ((T.heap.toList.drop T.heap.size).map (·.slots.size)).sum ≤ 0
      rw [nil0]; exact Nat.le_refl _
end CALLT
end THROWS
end
section
section NATS
variable {l : Launch} {I : MI} {pc : Nat} {lv : List (Nat × Value)} {st : List Value} {M : List va_E} {k n : Nat} {out : Out}
/-- a function set at a place -/
def up (f : Nat → Nat) (i v : Nat) : Nat → Nat := fun j => if j = i then v else f j
theorem up_self (f : Nat → Nat) (i v : Nat) : up f i v i = v := by simp [up]
theorem up_ne (f : Nat → Nat) {i j : Nat} (v : Nat) (h : j ≠ i) : up f i v j = f j := by simp [up, h]
/-- an array of small numbers -/
abbrev aI (n : Nat) (g : Nat → Nat) : va_E := .inl (0, n, .inl (fun j => nI (g j)))
abbrev aZ (n : Nat) (g : Nat → Nat) : va_E := .inl (1, n, .inl (fun j => nI (g j)))
/-- an array of numbers less one: minus one is nothing -/
def pI (n : Nat) : Int32 := nI n - 1
abbrev aP (n : Nat) (g : Nat → Nat) : va_E := .inl (0, n, .inl (fun j => pI (g j)))
theorem upd_nI (g : Nat → Nat) (i v : Nat) : upd (fun j => nI (g j)) i (nI v) = fun j => nI (up g i v j) := by
  funext j; unfold upd up; split <;> rfl
theorem upd_pI (g : Nat → Nat) (i v : Nat) : upd (fun j => pI (g j)) i (pI v) = fun j => pI (up g i v j) := by
  funext j; unfold upd up; split <;> rfl
theorem nI_xor (a b : Nat) : nI a ^^^ nI b = nI (a ^^^ b) := by
  unfold nI
  apply Int32.toBitVec_inj.mp
  simp [BitVec.ofNat_xor]
theorem nI_and (a b : Nat) : nI a &&& nI b = nI (a &&& b) := by
  unfold nI
  apply Int32.toBitVec_inj.mp
  simp [BitVec.ofNat_and]
theorem J.iaddN {a b : Nat} {r : List Value} (hd : decode I.cc pc = .ok (.iadd, 1)) (kk : J l I (pc + 1) lv (.int (nI (a + b)) :: r) M k n out) : J l I pc lv (.int (nI b) :: .int (nI a) :: r) M k n out := J.iadd hd (by rw [nI_add]; exact kk)
theorem J.isubN {a b : Nat} {r : List Value} (hd : decode I.cc pc = .ok (.isub, 1)) (h : b ≤ a) (kk : J l I (pc + 1) lv (.int (nI (a - b)) :: r) M k n out) : J l I pc lv (.int (nI b) :: .int (nI a) :: r) M k n out := J.isub hd (by rw [pk_sub h]; exact kk)
theorem J.imulN {a b : Nat} {r : List Value} (hd : decode I.cc pc = .ok (.imul, 1)) (kk : J l I (pc + 1) lv (.int (nI (a * b)) :: r) M k n out) : J l I pc lv (.int (nI b) :: .int (nI a) :: r) M k n out := J.imul hd (by rw [pk_mul]; exact kk)
theorem J.ixorN {a b : Nat} {r : List Value} (hd : decode I.cc pc = .ok (.ixor, 1)) (kk : J l I (pc + 1) lv (.int (nI (a ^^^ b)) :: r) M k n out) : J l I pc lv (.int (nI b) :: .int (nI a) :: r) M k n out := J.ixor hd (by rw [nI_xor]; exact kk)
theorem J.iandN {a b : Nat} {r : List Value} (hd : decode I.cc pc = .ok (.iand, 1)) (kk : J l I (pc + 1) lv (.int (nI (a &&& b)) :: r) M k n out) : J l I pc lv (.int (nI b) :: .int (nI a) :: r) M k n out := J.iand hd (by rw [nI_and]; exact kk)
theorem J.idivN {a b : Nat} {r : List Value} (hd : decode I.cc pc = .ok (.idiv, 1)) (ha : a < 2 ^ 31) (h0 : 0 < b) (hb : b < 2 ^ 31) (kk : J l I (pc + 1) lv (.int (nI (a / b)) :: r) M k n out) : J l I pc lv (.int (nI b) :: .int (nI a) :: r) M k n out := J.idiv hd (nI_ne0 h0 hb) (by rw [pk_div ha h0 hb]; exact kk)
theorem J.iremN {a b : Nat} {r : List Value} (hd : decode I.cc pc = .ok (.irem, 1)) (ha : a < 2 ^ 31) (h0 : 0 < b) (hb : b < 2 ^ 31) (kk : J l I (pc + 1) lv (.int (nI (a % b)) :: r) M k n out) : J l I pc lv (.int (nI b) :: .int (nI a) :: r) M k n out := J.irem hd (nI_ne0 h0 hb) (by rw [pk_rem ha h0 hb]; exact kk)
theorem sh31 : ∀ i : Fin 32, ((nI i.val &&& 31).toBitVec.smod 32).toNat = i.val := by decide +kernel
theorem J.ishrN {a b : Nat} {r : List Value} (hd : decode I.cc pc = .ok (.ishr, 1)) (ha : a < 2 ^ 31) (hb : b < 32) (kk : J l I (pc + 1) lv (.int (nI (a / 2 ^ b)) :: r) M k n out) : J l I pc lv (.int (nI b) :: .int (nI a) :: r) M k n out := J.ishr hd (by rw [pk_shrN ha _ b (sh31 ⟨b, hb⟩)]; exact kk)
theorem J.iincN {i a : Nat} {z : Int} (hd : decode I.cc pc = .ok (.iinc i z, 3)) (hz : z = 1) (hl : lk lv i = some (.int (nI a))) (hn : i < I.nL) (hs : sok lv i = true) (kk : J l I (pc + 3) (sv lv i (.int (nI (a + 1)))) st M k n out) : J l I pc lv st M k n out := J.iinc hd hl (by rw [hz, nI_succ]; rfl) hn hs kk
theorem J.ialoadN {a len i : Nat} {g : Nat → Nat} {r : List Value} (hd : decode I.cc pc = .ok (.iaload, 1)) (hM : M[a]? = some (aI len g)) (hl : len < 2 ^ 31) (hi : i < len) (kk : J l I (pc + 1) lv (.int (nI (g i)) :: r) M k n out) : J l I pc lv (.int (nI i) :: .ref a :: r) M k n out :=
  J.ialoadR hd hM (vp_in_nI hi hl) (by rw [nI_clamp (Nat.lt_trans hi hl)]; exact kk)
theorem J.ialoadP {a len i : Nat} {g : Nat → Nat} {r : List Value} (hd : decode I.cc pc = .ok (.iaload, 1)) (hM : M[a]? = some (aP len g)) (hl : len < 2 ^ 31) (hi : i < len) (kk : J l I (pc + 1) lv (.int (pI (g i)) :: r) M k n out) : J l I pc lv (.int (nI i) :: .ref a :: r) M k n out :=
  J.ialoadR hd hM (vp_in_nI hi hl) (by rw [nI_clamp (Nat.lt_trans hi hl)]; exact kk)
theorem J.baloadN {a len i : Nat} {g : Nat → Nat} {r : List Value} (hd : decode I.cc pc = .ok (.baload, 1)) (hM : M[a]? = some (aZ len g)) (hl : len < 2 ^ 31) (hi : i < len) (kk : J l I (pc + 1) lv (.int (nI (g i)) :: r) M k n out) : J l I pc lv (.int (nI i) :: .ref a :: r) M k n out :=
  J.baloadR hd hM (vp_in_nI hi hl) (by rw [nI_clamp (Nat.lt_trans hi hl)]; exact kk)
theorem J.iastoreN {a len i v : Nat} {g : Nat → Nat} {r : List Value} (hd : decode I.cc pc = .ok (.iastore, 1)) (hM : M[a]? = some (aI len g)) (hl : len < 2 ^ 31) (hi : i < len) (kk : J l I (pc + 1) lv r (M.set a (aI len (up g i v))) k n out) : J l I pc lv (.int (nI v) :: .int (nI i) :: .ref a :: r) M k n out :=
  J.iastoreR hd hM (vp_in_nI hi hl) (by rw [nI_clamp (Nat.lt_trans hi hl), upd_nI]; exact kk)
theorem J.iastoreP {a len i v : Nat} {g : Nat → Nat} {r : List Value} (hd : decode I.cc pc = .ok (.iastore, 1)) (hM : M[a]? = some (aP len g)) (hl : len < 2 ^ 31) (hi : i < len) (kk : J l I (pc + 1) lv r (M.set a (aP len (up g i v))) k n out) : J l I pc lv (.int (pI v) :: .int (nI i) :: .ref a :: r) M k n out :=
  J.iastoreR hd hM (vp_in_nI hi hl) (by rw [nI_clamp (Nat.lt_trans hi hl), upd_pI]; exact kk)
theorem nar01 : ∀ v : Fin 2, vp_nar .boolean (nI v.val) = nI v.val := by decide +kernel
theorem J.bastoreN {a len i v : Nat} {g : Nat → Nat} {r : List Value} (hd : decode I.cc pc = .ok (.bastore, 1)) (hM : M[a]? = some (aZ len g)) (hl : len < 2 ^ 31) (hi : i < len) (hv : v < 2) (kk : J l I (pc + 1) lv r (M.set a (aZ len (up g i v))) k n out) : J l I pc lv (.int (nI v) :: .int (nI i) :: .ref a :: r) M k n out :=
  J.bastoreR hd hM (vp_in_nI hi hl) (by rw [nI_clamp (Nat.lt_trans hi hl), nar01 ⟨v, hv⟩, upd_nI]; exact kk)
theorem J.icmp_ltN {a b : Nat} {off : Int} {tgt : Nat} {r : List Value} (hd : decode I.cc pc = .ok (.if_icmp .lt off, 3)) (ht : (pc : Int) + off = (tgt : Int)) (ha : a < 2 ^ 31) (hb : b < 2 ^ 31) (kt : a < b → J l I tgt lv r M k n out) (kf : b ≤ a → J l I (pc + 3) lv r M k n out) : J l I pc lv (.int (nI b) :: .int (nI a) :: r) M k n out :=
  J.icmp_lt hd ht (fun h => kt ((nI_ltI ha hb).mp h)) (fun h => kf (by have := mt (nI_ltI ha hb).mpr h; omega))
theorem J.icmp_geN {a b : Nat} {off : Int} {tgt : Nat} {r : List Value} (hd : decode I.cc pc = .ok (.if_icmp .ge off, 3)) (ht : (pc : Int) + off = (tgt : Int)) (ha : a < 2 ^ 31) (hb : b < 2 ^ 31) (kt : b ≤ a → J l I tgt lv r M k n out) (kf : a < b → J l I (pc + 3) lv r M k n out) : J l I pc lv (.int (nI b) :: .int (nI a) :: r) M k n out :=
  J.icmp_ge hd ht (fun h => kt ((nI_leI hb ha).mp h)) (fun h => kf (by have := mt (nI_leI hb ha).mpr h; omega))
theorem J.icmp_gtN {a b : Nat} {off : Int} {tgt : Nat} {r : List Value} (hd : decode I.cc pc = .ok (.if_icmp .gt off, 3)) (ht : (pc : Int) + off = (tgt : Int)) (ha : a < 2 ^ 31) (hb : b < 2 ^ 31) (kt : b < a → J l I tgt lv r M k n out) (kf : a ≤ b → J l I (pc + 3) lv r M k n out) : J l I pc lv (.int (nI b) :: .int (nI a) :: r) M k n out :=
  J.icmp_gt hd ht (fun h => kt ((nI_ltI hb ha).mp h)) (fun h => kf (by have := mt (nI_ltI hb ha).mpr h; omega))
theorem J.icmp_leN {a b : Nat} {off : Int} {tgt : Nat} {r : List Value} (hd : decode I.cc pc = .ok (.if_icmp .le off, 3)) (ht : (pc : Int) + off = (tgt : Int)) (ha : a < 2 ^ 31) (hb : b < 2 ^ 31) (kt : a ≤ b → J l I tgt lv r M k n out) (kf : b < a → J l I (pc + 3) lv r M k n out) : J l I pc lv (.int (nI b) :: .int (nI a) :: r) M k n out :=
  J.icmp_le hd ht (fun h => kt ((nI_leI ha hb).mp h)) (fun h => kf (by have := mt (nI_leI ha hb).mpr h; omega))
theorem J.icmp_eqN {a b : Nat} {off : Int} {tgt : Nat} {r : List Value} (hd : decode I.cc pc = .ok (.if_icmp .eq off, 3)) (ht : (pc : Int) + off = (tgt : Int)) (ha : a < 2 ^ 31) (hb : b < 2 ^ 31) (kt : a = b → J l I tgt lv r M k n out) (kf : a ≠ b → J l I (pc + 3) lv r M k n out) : J l I pc lv (.int (nI b) :: .int (nI a) :: r) M k n out :=
  J.icmp_eq hd ht (fun h => kt ((nI_eq ha hb).mp h)) (fun h => kf (fun q => h (q ▸ rfl)))
theorem J.icmp_neN {a b : Nat} {off : Int} {tgt : Nat} {r : List Value} (hd : decode I.cc pc = .ok (.if_icmp .ne off, 3)) (ht : (pc : Int) + off = (tgt : Int)) (ha : a < 2 ^ 31) (hb : b < 2 ^ 31) (kt : a ≠ b → J l I tgt lv r M k n out) (kf : a = b → J l I (pc + 3) lv r M k n out) : J l I pc lv (.int (nI b) :: .int (nI a) :: r) M k n out :=
  J.icmp_ne hd ht (fun h => kt (fun q => h (q ▸ rfl))) (fun h => kf ((nI_eq ha hb).mp h))
theorem J.if_eqN {a : Nat} {off : Int} {tgt : Nat} {r : List Value} (hd : decode I.cc pc = .ok (.ifCond .eq off, 3)) (ht : (pc : Int) + off = (tgt : Int)) (ha : a < 2 ^ 31) (kt : a = 0 → J l I tgt lv r M k n out) (kf : a ≠ 0 → J l I (pc + 3) lv r M k n out) : J l I pc lv (.int (nI a) :: r) M k n out :=
  J.if_eq hd ht (fun h => kt ((nI_eq ha (by decide)).mp (h.trans nI_0.symm))) (fun h => kf (fun q => h (by rw [q]; exact nI_0)))
theorem J.if_neN {a : Nat} {off : Int} {tgt : Nat} {r : List Value} (hd : decode I.cc pc = .ok (.ifCond .ne off, 3)) (ht : (pc : Int) + off = (tgt : Int)) (ha : a < 2 ^ 31) (kt : a ≠ 0 → J l I tgt lv r M k n out) (kf : a = 0 → J l I (pc + 3) lv r M k n out) : J l I pc lv (.int (nI a) :: r) M k n out :=
  J.if_ne hd ht (fun h => kt (fun q => h (by rw [q]; exact nI_0))) (fun h => kf ((nI_eq ha (by decide)).mp (h.trans nI_0.symm)))
theorem J.if_ltN {a : Nat} {off : Int} {tgt : Nat} {r : List Value} (hd : decode I.cc pc = .ok (.ifCond .lt off, 3)) (ht : (pc : Int) + off = (tgt : Int)) (ha : a < 2 ^ 31)  (kf : True → J l I (pc + 3) lv r M k n out) : J l I pc lv (.int (nI a) :: r) M k n out :=
  J.if_lt hd ht (fun h => (nI_pos ha h).elim) (fun _ => kf trivial)
theorem J.if_geN {a : Nat} {off : Int} {tgt : Nat} {r : List Value} (hd : decode I.cc pc = .ok (.ifCond .ge off, 3)) (ht : (pc : Int) + off = (tgt : Int)) (ha : a < 2 ^ 31) (kt : True → J l I tgt lv r M k n out)  : J l I pc lv (.int (nI a) :: r) M k n out :=
  J.if_ge hd ht (fun _ => kt trivial) (fun h => (h (nI_pos' ha)).elim)
theorem J.if_gtN {a : Nat} {off : Int} {tgt : Nat} {r : List Value} (hd : decode I.cc pc = .ok (.ifCond .gt off, 3)) (ht : (pc : Int) + off = (tgt : Int)) (ha : a < 2 ^ 31) (kt : 0 < a → J l I tgt lv r M k n out) (kf : a = 0 → J l I (pc + 3) lv r M k n out) : J l I pc lv (.int (nI a) :: r) M k n out :=
  J.if_gt hd ht (fun h => kt (Nat.pos_of_ne_zero fun q => by rw [q, nI_0] at h; exact absurd h (by decide))) (fun h => kf (Nat.eq_zero_of_not_pos fun q => h (by have := nI_lt q ha; rwa [nI_0] at this)))
theorem J.if_leN {a : Nat} {off : Int} {tgt : Nat} {r : List Value} (hd : decode I.cc pc = .ok (.ifCond .le off, 3)) (ht : (pc : Int) + off = (tgt : Int)) (ha : a < 2 ^ 31) (kt : a = 0 → J l I tgt lv r M k n out) (kf : 0 < a → J l I (pc + 3) lv r M k n out) : J l I pc lv (.int (nI a) :: r) M k n out :=
  J.if_le hd ht (fun h => kt (Nat.eq_zero_of_not_pos fun q => nI_nle q ha h)) (fun h => kf (Nat.pos_of_ne_zero fun q => h (by rw [q, nI_0]; decide)))
end NATS
end
section
section JT
variable {l : Launch} {I I' : MI} {pc : Nat} {lv : List (Nat × Value)} {st : List Value} {M : List va_E} {k n : Nat}
/-- cells that no place names are kept -/
theorem kept_frame {s U : State} {a b : Nat} (h : s.sameButNew ({ U with vm := s.vm } : State) [] a b) : s.heap.size ≤ U.heap.size ∧ ∀ q : Nat, q < s.heap.size → U.heap[q]? = s.heap[q]? := by
  obtain ⟨-, h2, -, -, -, h6⟩ := h
  refine ⟨h2, fun q hq => ?_⟩
  obtain ⟨c9, e1, e2, e3, e4⟩ := h6 q _ (Array.getElem?_eq_getElem hq)
  have hs : c9.slots = (s.heap[q]).slots := Array.ext_getElem? fun i => e4 i (fun hm => nomatch hm)
  have h9 : c9 = s.heap[q] := by
    rw [hs] at e2
    exact e2
  have e5 : U.heap[q]? = some c9 := e1
  rw [e5, h9, Array.getElem?_eq_getElem hq]
/-- the words of 'throw new E()' -/
def TW (own cls : String) (ik ic : Nat) (names : List String) : Prop := Bundle.fit cls = true ∧ (∀ n ∈ names, Bundle.fit n = true) ∧ Cond.classLink own ik cls ∈ lw_tbl ∧ Cond.initialized cls ∈ lw_tbl ∧ ∀ w ∈ Bundle.ownAtoms0 own ic cls names, w ∈ zw ∨ (w ∈ lw_tbl ∧ okw w = true)
set_option maxHeartbeats 1000000 in
theorem J.throwNew (hl : l.stackTraces = false) {cls : String} {names : List String} {ik ic : Nat} (hT : TW I.own cls ik ic names)
    (d0 : decode I.cc pc = .ok (.new ik, 3)) (d3 : decode I.cc (pc + 3) = .ok (.dup, 1)) (d4 : decode I.cc (pc + 4) = .ok (.invokespecial ic, 3)) (d7 : decode I.cc (pc + 7) = .ok (.athrow, 1)) (htab : I.tab = [])
    (hf : names.length + 3 < I.rm.frames) (hlo : wsum st + (13 * (names.length + 1) + 42) ≤ I.rm.locals) (hc : k + 1 ≤ I.mc ∧ I.mc ≤ I.rm.cells) (hs : n + 6 ≤ I.ms ∧ I.ms ≤ I.rm.slots) : J l I pc lv st M k n (.inr (cls, M)) := by
  intro D cA ad p e s m args below meth c A locs H ls h T hT0 X
  obtain ⟨hcls, hnames, hk, hini, hat⟩ := hT
  have htr : e.platform.stackTraces = false := (show e.platform.stackTraces = l.stackTraces by rw [X.admits.platform]).trans hl
  have Y := reb X (R' := { frames := I.rm.frames, locals := I.rm.locals, cells := 1, slots := 6 }) (Nat.le_refl _) (Nat.le_refl _) (by show k + 1 ≤ _; omega) (by show n + 6 ≤ _; omega)
  obtain ⟨s', hA⟩ : ∃ z, z = (T.setVm s.vm).setFrames (.invoking m args :: below) := ⟨_, rfl⟩
  rw [← hA] at Y
  have hvm : s'.vm = s.vm := by rw [hA]; rfl
  have hhp : s'.heap = H := by rw [hA]; exact hT0
  have hW0 : s.WarmedH s'.vm := by rw [hvm]; exact State.WarmedH.refl s
  have hN : NW s' := h.hw.moved hW0
  have hZ : ZZ A s' H := (h.hZ.kept h.hS.1 h.hS.2.1).moved hW0.alike
  have hws : ∀ w ∈ Bundle.ownAtoms0 I.own ic cls names, w.before args s' = true := by
    intro w hw
    rcases hat w hw with z | z
    · exact hZ s' args (Vm.Alike.refl _) (by rw [hhp]; exact Nat.le_refl _) (fun q _ _ => by rw [hhp]) w z
    · exact hN.at z.1 z.2 args
  have hown' : s'.vm.findClass I.own = some m.cls := by rw [hvm]; exact h.ho
  have hcc : c.code = I.cc := h.hb
  obtain ⟨vm₁, cX, kX, hfX, hkX, -, -, X₁, st1⟩ := Y.newCold h.hx (own := I.own) (C := cls) (index := ik) (n := 6) hown' (hN.at hk rfl args) (hws _ (by simp [Bundle.ownAtoms0])) (hN.at hini rfl args)
    (g := F0 m pc ls (st.map (pv ad))) rfl (by rw [hcc]; exact d0) (Nat.le_refl _) (Nat.le_refl _)
  generalize hT1 : (T.setVm vm₁).pushCell { cls := cX, slots := kX.instanceTypes.map defaultValue, vm := .none } = T1 at X₁ st1
  have hcellA : T1.heap[T.heap.size]? = some (freshCell cX kX) := by rw [← hT1]; exact State.heap_pushCell_size _ _
  have d3' : decode c.code (pc + 3) = .ok (.dup, 1) := by rw [hcc]; exact d3
  have hcat : (Value.ref T.heap.size).category = 1 := rfl
  have hout : ∀ x ∈ c.exceptionTable.toList, covers x (pc + 4 + 3) = false := by rw [h.2.2.2.2.2.2.1, htab]; exact fun _ hx => nomatch hx
  obtain ⟨U, hsteps, hrun, hend, hW, hsame, ce, hce, hO⟩ := X₁.ctorThrow0 h.hx htr (own := I.own) (cls := cls) (names := names) (ic := ic) hown' hcls hnames hws (fun x hx => nomatch hx) hfX hkX hcellA (by rw [hhp, hT0]; exact Nat.le_refl _)
    (g := { method := m, pc := pc + 4, locals := ls, stack := .ref T.heap.size :: .ref T.heap.size :: st.map (pv ad), locked := none }) rfl (h.hl.1.trans h.2.2.1.symm) rfl rfl (rest := st.map (pv ad)) rfl
    (by rw [hcc]; exact d4) (by rw [hcc]; exact d7) hout hf (by
      have e9 := wsum_pv ad st
      simp only [List.map_cons, List.sum_cons, hcat, e9]
      show 2 * 0 + _ + _ ≤ I.rm.locals
      omega) h.2.2.2.2.1
  obtain ⟨f1, f2⟩ := kept_frame hsame
  rw [hhp] at f1 f2
  have hWs : s.WarmedH U.vm := State.WarmedH.trans hW0 hW
  have hcl : s.vm.findClass cls = some ce.cls := by
    have h9 := hO.cls
    rw [hvm] at h9
    exact h9
  have hall : s.sameButNew ({ U with vm := s.vm } : State) locs I.mc I.ms := by
    subst hA
    obtain ⟨e1, e2⟩ := hsame
    rw [State.setFrames_setFrames] at e1
    have h2 : (T.setVm s.vm).sameButNew ({ U with vm := s.vm } : State) [] (0 + 1) (0 + 6) := ⟨e1, e2⟩
    have h3 := X.same.trans h2
    rw [List.append_nil] at h3
    exact h3.mono (by omega) (by omega)
  have hP' : va_P D vwCl (pw ad cA M) U.heap := h.hP.kept (fun j q hq => f2 q.1 (h.hP j q hq).lt)
  refine ⟨U, ?_, .threw T.heap.size, hrun, hend, ⟨ad, fun _ _ => rfl, fun _ => rfl, Nat.le_refl _, hP', va_K.moved hWs.alike h.hK, h.hD⟩, T.heap.size, ce, locs, rfl, hce, hO.vm, hcl, ⟨Nat.le_trans h.hS.1 f1, fun q h1 h2 => (f2 q (Nat.lt_of_lt_of_le h1 h.hS.1)).trans (h.hS.2.1 q h1 h2)⟩, hWs, hall, h.hS.2.2⟩
  refine st1 _ ?_
  show Steps p.tables e below (T1.setTop { method := m, pc := pc + 3, locals := ls, stack := .ref T.heap.size :: st.map (pv ad), locked := none }) _
  jvm_step X₁.here [X₁.here.top, h.hx, d3', Value.category]
  exact hsteps
end JT
theorem tw_IAE : TW NV "java/lang/IllegalArgumentException" 57 59 ["java/lang/RuntimeException", "java/lang/Exception"] := ⟨by decide +kernel, by decide +kernel, by decide +kernel, by decide +kernel, by decide +kernel⟩
theorem tw_ISE : TW NV "java/lang/IllegalStateException" 70 72 ["java/lang/RuntimeException", "java/lang/Exception"] := ⟨by decide +kernel, by decide +kernel, by decide +kernel, by decide +kernel, by decide +kernel⟩
theorem tw_IOB : TW NV "java/lang/IndexOutOfBoundsException" 95 97 ["java/lang/RuntimeException", "java/lang/Exception"] := ⟨by decide +kernel, by decide +kernel, by decide +kernel, by decide +kernel, by decide +kernel⟩
theorem tw_ARE : TW NV "java/lang/ArithmeticException" 157 159 ["java/lang/RuntimeException", "java/lang/Exception"] := ⟨by decide +kernel, by decide +kernel, by decide +kernel, by decide +kernel, by decide +kernel⟩
theorem tw_NSE : TW NV "java/util/NoSuchElementException" 171 173 ["java/lang/RuntimeException", "java/lang/Exception"] := ⟨by decide +kernel, by decide +kernel, by decide +kernel, by decide +kernel, by decide +kernel⟩
end
section
section VT
variable {l : Launch} {I I' : MI} {pc : Nat} {lv : List (Nat × Value)} {M : List va_E} {k n : Nat}
/-- what a callee that threw leaves, as its caller has it -/
theorem Qt.facts {D : va_G} {cA ad : Nat → Nat} {N : Nat} {A : Nat → Prop} {mc ms : Nat} {r : String × List va_E} {a : Array Value} {st t : State} {o : Outcome} (h : Qt D cA ad N A mc ms r a st o t) : ∃ (q : Addr) (L : List Loc), o = .threw q ∧ st.WarmedH t.vm ∧ st.sameButNew ({ t with vm := st.vm } : State) L mc ms ∧ ∀ z ∈ L, A z.base := by
  obtain ⟨-, q, ce, L, h1, -, -, -, -, h6, h7, h8⟩ := h
  exact ⟨q, L, h1, h6, h7, h8⟩
set_option maxHeartbeats 1000000 in
/-- a call that throws: the frame has q thrown over it -/
theorem vthrown {index na b ci : Nat} {fs : List Value} {C : String} {T0 : u_T} {N : Nat} {as rest : List Value} {E : String} {M' : List va_E} (hC : Con l I' (.ref b :: as) M (.inr (E, M'))) (hc : CallV I I' C index na) (hd : decode I.cc pc = .ok (.invokevirtual index, 3)) (hM : M[b]? = some (.inr (ci, fs))) (hcl : vwCl[ci]? = some (C, T0, N)) (hna : as.length = na) (hw : wsum rest ≤ 8) (hf : k + I'.mc ≤ I.rm.cells ∧ n + I'.ms ≤ I.rm.slots)
    {D : va_G} {cA ad : Nat → Nat} {p : Program} {e : Env} {s : State} {m : MethodId} {args : Array Value} {below : List Frame} {meth : Method} {c : Code} {A : Nat → Prop} {locs : List Loc} {H : Heap} {ls : Array Slot} (h : Cx I D cA ad p s m args meth c A locs H ls lv M)
    {T : State} (hT : T.heap = H) (X : Stand p l e I.rm s m args below meth c T locs k n) :
    ∃ (q : Addr) (ce : Cell) (T' : State) (L : List Loc) (ad' : Nat → Nat), (∀ i, i < M.length → ad' i = ad i) ∧ (M'.length = M.length → ad' = ad) ∧ M.length ≤ M'.length ∧ va_P D vwCl (pw ad' cA M') T'.heap ∧ va_D A (pw ad' cA M') ∧ va_S A s.heap T'.heap (locs ++ L) ∧
      T'.heap[q]? = some ce ∧ ce.vm = .none ∧ s.vm.findClass E = some ce.cls ∧ Stand p l e I.rm s m args below meth c T' (locs ++ L) (k + I'.mc) (n + I'.ms) ∧
      Steps p.tables e below (T.setTop (F0 m pc ls ((as.reverse ++ .ref b :: rest).map (pv ad)))) ((T'.setTop (F0 m pc ls (rest.map (pv ad)))).pushFrame (.throwing q)) := by
  obtain ⟨p1, p2⟩ := Ps_here h (.ref b :: as)
  have hb := hc.1
  have hBk := backT_of (p := p) (e := e) (below := below) (s := s) (sargs := args) (len := 3) (W9 := 8) (R := I.rm) (hC D cA ad H.size) p1 hb.1 hb.2.1 hb.2.2.1 hb.2.2.2.1 (hb.ws h.hw) hb.mem (fun a' U hW => h.hw.1 U a' hW _ hb.2.2.2.2.2.2.1 rfl) (fun a st o t hq => Qt.facts hq)
  obtain ⟨cellB, hcB, hoB, hclB⟩ := va_recv h.hK h.hP hcl (pw_at (ad := ad) (cA := cA) hM)
  obtain ⟨q, vm₁, ⟨U', l2, c2, s2⟩, hW₁, X', ⟨g', mk, t, L, e1, e2, hq, h1, hL, h2, h3⟩, st⟩ := callVT X h.hx h.ho (h.hw.at hc.2.1 rfl args) (h.hw.at hc.2.2.1 rfl args) (h.hw.at hc.2.2.2 rfl args) (h.hw.at hb.2.2.2.2.2.1 rfl args) hb.2.2.2.2.2.2.2.1 hBk (b := ad b) (by rw [hT]; exact hcB) hoB hclB
    (g := F0 m pc ls ((as.reverse ++ .ref b :: rest).map (pv ad))) rfl (h.hl.1.trans h.2.2.1.symm) (argsL := as.map (pv ad)) (rest := rest.map (pv ad)) (fun sig hs => by rw [List.length_map]; exact hna.trans (hb.arity sig hs)) (map_rev ad as (.ref b :: rest)) (by show 2 * 0 + _ ≤ 8; rw [wsum_pv]; omega) (by rw [h.hb]; exact hd)
    (fun vm₁ hW₁ => ⟨hf.1, hf.2, p2 (T.setVm vm₁) hT hW₁⟩)
  dsimp only [Pt.U, Pt.locs, Pt.cells, Pt.slots] at X' e1 e2 h1 h2 h3 st hq
  subst h1; subst h2; subst h3
  obtain ⟨⟨ad', g1, g2, g3, g5, g6, g7⟩, q9, ce, L9, z1, z2, z3, z4, z5, z6, z7, z8⟩ := hq
  cases z1
  have hfr := free_in h
  have h0 : ((T.setVm vm₁).calling g' mk (Value.ref (ad b) :: as.map (pv ad)).toArray).heap = H := hT
  have hSz : H.size ≤ U'.heap.size := by rw [e1, ← h0]; exact z5.1
  have hk1 : ∀ q : Nat, q < H.size → ¬ A q → U'.heap[q]? = H[q]? := by
    intro q g h9
    rw [e1, ← h0]
    exact z5.2 q (by rw [h0]; exact g) (fun z => h9 (hfr q z))
  refine ⟨q, ce, U', L, ad', g1, g2, g3, by rw [e1]; exact g5, g7.weaken (fun j q _ hq => hfr _ hq), ⟨Nat.le_trans h.hS.1 hSz, fun q h1 h2 => (hk1 q (Nat.lt_of_lt_of_le h1 h.hS.1) h2).trans (h.hS.2.1 q h1 h2), fun q hq => ?_⟩, by rw [e1]; exact z2, z3, ?_, X', st⟩
  · rcases List.mem_append.mp hq with z | z
    · exact h.hS.2.2 q z
    · exact hfr _ (hL q z)
  · have : vm₁.findClass E = some ce.cls := z4
    rw [hW₁.alike.findClass] at this
    exact this
/-- .. and nobody catches it here -/
theorem J.vthrows {index na b ci : Nat} {fs : List Value} {C : String} {T0 : u_T} {N : Nat} {as rest : List Value} {E : String} {M' : List va_E} (hC : Con l I' (.ref b :: as) M (.inr (E, M'))) (hc : CallV I I' C index na) (hd : decode I.cc pc = .ok (.invokevirtual index, 3)) (hM : M[b]? = some (.inr (ci, fs))) (hcl : vwCl[ci]? = some (C, T0, N)) (hna : as.length = na) (hw : wsum rest ≤ 8) (htab : I.tab = []) (hf : k + I'.mc ≤ I.mc ∧ n + I'.ms ≤ I.ms) (hr : I.mc ≤ I.rm.cells ∧ I.ms ≤ I.rm.slots) : J l I pc lv (as.reverse ++ .ref b :: rest) M k n (.inr (E, M')) := by
  intro D cA ad p e s m args below meth c A locs H ls h T hT X
  obtain ⟨q, ce, T', L, ad', g1, g2, g3, gP, gD, gS, hce, hcv, hcl9, X', st⟩ := vthrown hC hc hd hM hcl hna hw ⟨Nat.le_trans hf.1 hr.1, Nat.le_trans hf.2 hr.2⟩ h hT X
  obtain ⟨st1, hrun, hend, hW, hsm⟩ := X'.leaveThrown q (g := F0 m pc ls (rest.map (pv ad))) rfl rfl rfl (by rw [h.2.2.2.2.2.2.1, htab]; exact fun _ hx => nomatch hx) h.2.2.2.2.1
  exact ⟨_, st.trans st1, .threw q, hrun, hend, ⟨ad', g1, g2, g3, gP, va_K.moved hW.alike h.hK, gD⟩, q, ce, locs ++ L, rfl, hce, hcv, hcl9, gS.F rfl, hW, hsm.mono hf.1 hf.2, gS.2.2⟩
end VT
end
section
/-! The field of 256: doubling, products, inverses, as both sides work them out -/
def gd (d : Nat) : Nat := if 256 ≤ 2 * d then (2 * d) ^^^ 285 else 2 * d
def gL : Nat → Nat → Nat → Nat → Nat
  | 0, _, s, _ => s
  | k + 1, b, s, d => gL k (b / 2) (if b % 2 = 1 then s ^^^ d else s) (gd d)
def gm (a b : Nat) : Nat := gL 8 b 0 a
theorem gd_tab : (List.range 256).all (fun x => decide (gd x < 256)) = true := by decide +kernel
theorem gd_lt {x : Nat} (h : x < 256) : gd x < 256 := by
  have := List.all_eq_true.mp gd_tab x (List.mem_range.mpr h)
  simpa using this
theorem xor_lt {x y : Nat} (hx : x < 256) (hy : y < 256) : x ^^^ y < 256 := Nat.xor_lt_two_pow (n := 8) hx hy
theorem gL_lt : ∀ (k b s d : Nat), s < 256 → d < 256 → gL k b s d < 256
  | 0, _, _, _, hs, _ => hs
  | k + 1, b, s, d, hs, hd => by
    unfold gL
    refine gL_lt k _ _ _ ?_ (gd_lt hd)
    split
    · exact xor_lt hs hd
    · exact hs
theorem gm_lt {a b : Nat} (ha : a < 256) : gm a b < 256 := gL_lt 8 b 0 a (by decide) ha
theorem gd_xor_tab : (List.range 256).all (fun x => (List.range 256).all (fun y => decide (gd (x ^^^ y) = gd x ^^^ gd y))) = true := by decide +kernel
theorem gd_xor {x y : Nat} (hx : x < 256) (hy : y < 256) : gd (x ^^^ y) = gd x ^^^ gd y := by
  have := List.all_eq_true.mp (List.all_eq_true.mp gd_xor_tab x (List.mem_range.mpr hx)) y (List.mem_range.mpr hy)
  simpa using this
theorem x4 (a b c d : Nat) : (a ^^^ b) ^^^ (c ^^^ d) = (a ^^^ c) ^^^ (b ^^^ d) := by
  rw [Nat.xor_assoc, Nat.xor_assoc, ← Nat.xor_assoc b c d, Nat.xor_comm b c, Nat.xor_assoc c b d]
/-- a product is additive on its left -/
theorem gL_addL : ∀ (k b s s' d d' : Nat), d < 256 → d' < 256 → gL k b (s ^^^ s') (d ^^^ d') = gL k b s d ^^^ gL k b s' d'
  | 0, _, _, _, _, _, _, _ => rfl
  | k + 1, b, s, s', d, d', hd, hd' => by
    unfold gL
    rw [gd_xor hd hd']
    split
    · rw [x4]; exact gL_addL k _ _ _ _ _ (gd_lt hd) (gd_lt hd')
    · exact gL_addL k _ _ _ _ _ (gd_lt hd) (gd_lt hd')
theorem gm_addL {a a' b : Nat} (ha : a < 256) (ha' : a' < 256) : gm (a ^^^ a') b = gm a b ^^^ gm a' b := by
  have := gL_addL 8 b 0 0 a a' ha ha'
  simpa [gm] using this
theorem xor_mod2 (a b : Nat) : (a ^^^ b) % 2 = (a % 2 + b % 2) % 2 := by
  have h := Nat.testBit_xor a b 0
  simp only [Nat.testBit_zero] at h
  have h1 := Nat.mod_two_eq_zero_or_one a
  have h2 := Nat.mod_two_eq_zero_or_one b
  have h3 := Nat.mod_two_eq_zero_or_one (a ^^^ b)
  rcases h1 with h1 | h1 <;> rcases h2 with h2 | h2 <;> rcases h3 with h3 | h3 <;> simp_all
theorem xor_div2 (a b : Nat) : (a ^^^ b) / 2 = (a / 2) ^^^ (b / 2) := by
  have := Nat.shiftRight_xor_distrib (a := a) (b := b) (i := 1)
  simpa [Nat.shiftRight_eq_div_pow] using this
/-- .. and on its right -/
theorem gL_addR : ∀ (k b b' s s' d : Nat), gL k (b ^^^ b') (s ^^^ s') d = gL k b s d ^^^ gL k b' s' d
  | 0, _, _, _, _, _ => rfl
  | k + 1, b, b', s, s', d => by
    unfold gL
    rw [xor_div2, ← gL_addR k]
    congr 1
    have e := xor_mod2 b b'
    have h1 := Nat.mod_two_eq_zero_or_one b
    have h2 := Nat.mod_two_eq_zero_or_one b'
    rcases h1 with h1 | h1 <;> rcases h2 with h2 | h2 <;> rw [h1, h2] at e <;> simp only [h1, h2, e]
    · simp
    · simp [Nat.xor_assoc]
    · simp [Nat.xor_assoc, Nat.xor_comm s' d]
    · simp only [if_pos, Nat.reduceAdd, Nat.reduceMod]
      rw [x4, Nat.xor_self, Nat.xor_zero]; simp
theorem gm_addR (a b b' : Nat) : gm a (b ^^^ b') = gm a b ^^^ gm a b' := by
  have := gL_addR 8 b b' 0 0 a
  simpa [gm] using this
/-- the inverse as the class works it out: a to the power of 254 -/
def giL : Nat → Nat → Nat → Nat
  | 0, _, w => w
  | k + 1, s, w => giL k (gm s s) (gm w (gm s s))
def gi (a : Nat) : Nat := giL 7 a 1
theorem giL_lt : ∀ (k s w : Nat), w < 256 → giL k s w < 256
  | 0, _, _, h => h
  | k + 1, s, w, h => by unfold giL; exact giL_lt k _ _ (gm_lt h)
theorem gi_lt (a : Nat) : gi a < 256 := giL_lt 7 a 1 (by decide)
theorem gi_one_tab : (List.range 256).all (fun a => decide (a = 0 ∨ (gm a (gi a) = 1 ∧ 0 < gi a))) = true := by decide +kernel
/-- .. and the reference's: the least x with a * x = 1 -/
theorem gi_least_tab : (List.range 256).all (fun a => (List.range (gi a)).all (fun x => decide (gm a x ≠ 1))) = true := by decide +kernel
theorem gi_one {a : Nat} (h0 : 0 < a) (h : a < 256) : gm a (gi a) = 1 ∧ 0 < gi a := by
  have := List.all_eq_true.mp gi_one_tab a (List.mem_range.mpr h)
  simp only [decide_eq_true_eq] at this
  rcases this with z | z
  · omega
  · exact z
theorem gi_least {a x : Nat} (h : a < 256) (hx : x < gi a) : gm a x ≠ 1 := by
  have := List.all_eq_true.mp (List.all_eq_true.mp gi_least_tab a (List.mem_range.mpr h)) x (List.mem_range.mpr hx)
  simpa using this
end
section
/-! What each method is, printed by wip/whole/gen/infos.py -/
def i_V_init : MI := (y_V_init, NV, "<init>", c_V_init, [Cond.code y_V_init c_V_init 5 none], 5, none, { frames := 4, cells := 14, slots := 1136, locals := 93 }, (14, 1136), [])
def i_V_put : MI := (y_V_put, NV, "put", c_V_put, [Cond.code y_V_put c_V_put 5 (some .boolean)], 5, (some .boolean), { frames := 0, cells := 0, slots := 0, locals := 0 }, (0, 0), [])
def i_V_scrap : MI := (y_V_scrap, NV, "scrap", c_V_scrap, [Cond.code y_V_scrap c_V_scrap 1 none], 1, none, { frames := 0, cells := 0, slots := 0, locals := 0 }, (0, 0), [])
def i_V_store : MI := (y_V_store, NV, "store", c_V_store, [Cond.code y_V_store c_V_store 2 (some .int)], 2, (some .int), { frames := 6, cells := 2, slots := 12, locals := 118 }, (2, 12), [])
def i_V_drop : MI := (y_V_drop, NV, "drop", c_V_drop, [Cond.code y_V_drop c_V_drop 2 (some .int)], 2, (some .int), { frames := 7, cells := 2, slots := 12, locals := 106 }, (2, 12), [])
def i_V_get : MI := (y_V_get, NV, "get", c_V_get, [Cond.code y_V_get c_V_get 3 (some .int)], 3, (some .int), { frames := 7, cells := 2, slots := 12, locals := 132 }, (2, 12), [])
def i_V_at : MI := (y_V_at, NV, "at", c_V_at, [Cond.code y_V_at c_V_at 2 (some .int)], 2, (some .int), { frames := 6, cells := 2, slots := 12, locals := 85 }, (2, 12), [])
def i_V_fail : MI := (y_V_fail, NV, "fail", c_V_fail, [Cond.code y_V_fail c_V_fail 3 (some .int)], 3, (some .int), { frames := 7, cells := 2, slots := 12, locals := 106 }, (2, 12), [])
def i_V_renew : MI := (y_V_renew, NV, "renew", c_V_renew, [Cond.code y_V_renew c_V_renew 2 (some .int)], 2, (some .int), { frames := 7, cells := 2, slots := 12, locals := 106 }, (2, 12), [])
def i_V_repair : MI := (y_V_repair, NV, "repair", c_V_repair, [Cond.code y_V_repair c_V_repair 4 (some .int)], 4, (some .int), { frames := 5, cells := 0, slots := 0, locals := 155 }, (0, 0), [])
def i_V_check : MI := (y_V_check, NV, "check", c_V_check, [Cond.code y_V_check c_V_check 5 (some .int)], 5, (some .int), { frames := 7, cells := 2, slots := 12, locals := 155 }, (2, 12), [])
def i_V_harm : MI := (y_V_harm, NV, "harm", c_V_harm, [Cond.code y_V_harm c_V_harm 7 (some .int)], 7, (some .int), { frames := 8, cells := 2, slots := 12, locals := 129 }, (2, 12), [])
def i_V_stored : MI := (y_V_stored, NV, "stored", c_V_stored, [Cond.code y_V_stored c_V_stored 4 (some .int)], 4, (some .int), { frames := 8, cells := 2, slots := 12, locals := 129 }, (2, 12), [])
def i_V_where : MI := (y_V_where, NV, "where", c_V_where, [Cond.code y_V_where c_V_where 4 (some .int)], 4, (some .int), { frames := 7, cells := 2, slots := 12, locals := 106 }, (2, 12), [])
def i_V_length : MI := (y_V_length, NV, "length", c_V_length, [Cond.code y_V_length c_V_length 2 (some .int)], 2, (some .int), { frames := 1, cells := 0, slots := 0, locals := 21 }, (0, 0), [])
def i_V_room : MI := (y_V_room, NV, "room", c_V_room, [Cond.code y_V_room c_V_room 2 (some .int)], 2, (some .int), { frames := 1, cells := 0, slots := 0, locals := 21 }, (0, 0), [])
def i_V_product : MI := (y_V_product, NV, "product", c_V_product, [Cond.code y_V_product c_V_product 3 (some .int)], 3, (some .int), { frames := 6, cells := 2, slots := 12, locals := 85 }, (2, 12), [])
def i_V_nearest : MI := (y_V_nearest, NV, "nearest", c_V_nearest, [Cond.code y_V_nearest c_V_nearest 2 (some .int)], 2, (some .int), { frames := 1, cells := 0, slots := 0, locals := 21 }, (0, 0), [])
def i_V_isByte : MI := (y_V_isByte, NV, "isByte", c_V_isByte, [Cond.code y_V_isByte c_V_isByte 1 (some .boolean)], 1, (some .boolean), { frames := 0, cells := 0, slots := 0, locals := 0 }, (0, 0), [])
def i_V_isObjectNumber : MI := (y_V_isObjectNumber, NV, "isObjectNumber", c_V_isObjectNumber, [Cond.code y_V_isObjectNumber c_V_isObjectNumber 1 (some .boolean)], 1, (some .boolean), { frames := 0, cells := 0, slots := 0, locals := 0 }, (0, 0), [])
def i_V_isDiskNumber : MI := (y_V_isDiskNumber, NV, "isDiskNumber", c_V_isDiskNumber, [Cond.code y_V_isDiskNumber c_V_isDiskNumber 1 (some .boolean)], 1, (some .boolean), { frames := 0, cells := 0, slots := 0, locals := 0 }, (0, 0), [])
def i_V_placeAt : MI := (y_V_placeAt, NV, "placeAt", c_V_placeAt, [Cond.code y_V_placeAt c_V_placeAt 2 (some .int)], 2, (some .int), { frames := 0, cells := 0, slots := 0, locals := 0 }, (0, 0), [])
def i_V_times : MI := (y_V_times, NV, "times", c_V_times, [Cond.code y_V_times c_V_times 5 (some .int)], 5, (some .int), { frames := 0, cells := 0, slots := 0, locals := 0 }, (0, 0), [])
def i_V_inverse : MI := (y_V_inverse, NV, "inverse", c_V_inverse, [Cond.code y_V_inverse c_V_inverse 4 (some .int)], 4, (some .int), { frames := 1, cells := 0, slots := 0, locals := 24 }, (0, 0), [])
def i_V_requireObject : MI := (y_V_requireObject, NV, "requireObject", c_V_requireObject, [Cond.code y_V_requireObject c_V_requireObject 2 none], 2, none, { frames := 6, cells := 1, slots := 6, locals := 85 }, (1, 6), [])
def i_V_requireDisk : MI := (y_V_requireDisk, NV, "requireDisk", c_V_requireDisk, [Cond.code y_V_requireDisk c_V_requireDisk 2 none], 2, none, { frames := 6, cells := 1, slots := 6, locals := 85 }, (1, 6), [])
def i_V_requireStoredByte : MI := (y_V_requireStoredByte, NV, "requireStoredByte", c_V_requireStoredByte, [Cond.code y_V_requireStoredByte c_V_requireStoredByte 4 none], 4, none, { frames := 7, cells := 2, slots := 12, locals := 106 }, (2, 12), [])
def i_V_placeDraft : MI := (y_V_placeDraft, NV, "placeDraft", c_V_placeDraft, [Cond.code y_V_placeDraft c_V_placeDraft 5 (some .boolean)], 5, (some .boolean), { frames := 4, cells := 0, slots := 0, locals := 94 }, (0, 0), [])
def i_V_takeDataFromDraft : MI := (y_V_takeDataFromDraft, NV, "takeDataFromDraft", c_V_takeDataFromDraft, [Cond.code y_V_takeDataFromDraft c_V_takeDataFromDraft 4 none], 4, none, { frames := 0, cells := 0, slots := 0, locals := 0 }, (0, 0), [])
def i_V_copyDataToOutput : MI := (y_V_copyDataToOutput, NV, "copyDataToOutput", c_V_copyDataToOutput, [Cond.code y_V_copyDataToOutput c_V_copyDataToOutput 4 none], 4, none, { frames := 0, cells := 0, slots := 0, locals := 0 }, (0, 0), [])
def i_V_placeShard : MI := (y_V_placeShard, NV, "placeShard", c_V_placeShard, [Cond.code y_V_placeShard c_V_placeShard 6 (some .boolean)], 6, (some .boolean), { frames := 3, cells := 0, slots := 0, locals := 69 }, (0, 0), [])
def i_V_roomiestDiskFor : MI := (y_V_roomiestDiskFor, NV, "roomiestDiskFor", c_V_roomiestDiskFor, [Cond.code y_V_roomiestDiskFor c_V_roomiestDiskFor 6 (some .int)], 6, (some .int), { frames := 2, cells := 0, slots := 0, locals := 44 }, (0, 0), [])
def i_V_releaseObject : MI := (y_V_releaseObject, NV, "releaseObject", c_V_releaseObject, [Cond.code y_V_releaseObject c_V_releaseObject 7 (some .int)], 7, (some .int), { frames := 1, cells := 0, slots := 0, locals := 23 }, (0, 0), [])
def i_V_isGone : MI := (y_V_isGone, NV, "isGone", c_V_isGone, [Cond.code y_V_isGone c_V_isGone 2 (some .boolean)], 2, (some .boolean), { frames := 1, cells := 0, slots := 0, locals := 23 }, (0, 0), [])
def i_V_hasGoneStripe : MI := (y_V_hasGoneStripe, NV, "hasGoneStripe", c_V_hasGoneStripe, [Cond.code y_V_hasGoneStripe c_V_hasGoneStripe 3 (some .boolean)], 3, (some .boolean), { frames := 2, cells := 0, slots := 0, locals := 44 }, (0, 0), [])
def i_V_readStripe : MI := (y_V_readStripe, NV, "readStripe", c_V_readStripe, [Cond.code y_V_readStripe c_V_readStripe 6 none], 6, none, { frames := 3, cells := 0, slots := 0, locals := 107 }, (0, 0), [])
def i_V_nextKept : MI := (y_V_nextKept, NV, "nextKept", c_V_nextKept, [Cond.code y_V_nextKept c_V_nextKept 4 (some .int)], 4, (some .int), { frames := 1, cells := 0, slots := 0, locals := 22 }, (0, 0), [])
def i_V_giveEquation : MI := (y_V_giveEquation, NV, "giveEquation", c_V_giveEquation, [Cond.code y_V_giveEquation c_V_giveEquation 6 none], 6, none, { frames := 2, cells := 0, slots := 0, locals := 82 }, (0, 0), [])
def i_V_repairStripe : MI := (y_V_repairStripe, NV, "repairStripe", c_V_repairStripe, [Cond.code y_V_repairStripe c_V_repairStripe 4 (some .int)], 4, (some .int), { frames := 4, cells := 0, slots := 0, locals := 132 }, (0, 0), [])
def i_V_hasWrongShard : MI := (y_V_hasWrongShard, NV, "hasWrongShard", c_V_hasWrongShard, [Cond.code y_V_hasWrongShard c_V_hasWrongShard 4 (some .boolean)], 4, (some .boolean), { frames := 4, cells := 0, slots := 0, locals := 132 }, (0, 0), [])
def i_V_isAsWorkedOut : MI := (y_V_isAsWorkedOut, NV, "isAsWorkedOut", c_V_isAsWorkedOut, [Cond.code y_V_isAsWorkedOut c_V_isAsWorkedOut 4 (some .boolean)], 4, (some .boolean), { frames := 2, cells := 0, slots := 0, locals := 48 }, (0, 0), [])
def i_R_init : MI := (y_R_init, NR, "<init>", c_R_init, [Cond.code y_R_init c_R_init 5 none], 5, none, { frames := 2, cells := 11, slots := 910, locals := 45 }, (11, 910), [])
def i_R_thrown : MI := (y_R_thrown, NR, "thrown", c_R_thrown, [Cond.code y_R_thrown c_R_thrown 1 (some .int)], 1, (some .int), { frames := 0, cells := 0, slots := 0, locals := 0 }, (0, 0), [])
def i_R_put : MI := (y_R_put, NR, "put", c_R_put, [Cond.code y_R_put c_R_put 5 (some .boolean)], 5, (some .boolean), { frames := 0, cells := 0, slots := 0, locals := 0 }, (0, 0), [])
def i_R_scrap : MI := (y_R_scrap, NR, "scrap", c_R_scrap, [Cond.code y_R_scrap c_R_scrap 1 none], 1, none, { frames := 0, cells := 0, slots := 0, locals := 0 }, (0, 0), [])
def i_R_times : MI := (y_R_times, NR, "times", c_R_times, [Cond.code y_R_times c_R_times 5 (some .int)], 5, (some .int), { frames := 0, cells := 0, slots := 0, locals := 0 }, (0, 0), [])
def i_R_inverse : MI := (y_R_inverse, NR, "inverse", c_R_inverse, [Cond.code y_R_inverse c_R_inverse 2 (some .int)], 2, (some .int), { frames := 1, cells := 0, slots := 0, locals := 24 }, (0, 0), [])
def i_R_factor : MI := (y_R_factor, NR, "factor", c_R_factor, [Cond.code y_R_factor c_R_factor 3 (some .int)], 3, (some .int), { frames := 0, cells := 0, slots := 0, locals := 0 }, (0, 0), [])
def i_R_shards : MI := (y_R_shards, NR, "shards", c_R_shards, [Cond.code y_R_shards c_R_shards 1 (some .int)], 1, (some .int), { frames := 0, cells := 0, slots := 0, locals := 0 }, (0, 0), [])
def i_R_stripesOf : MI := (y_R_stripesOf, NR, "stripesOf", c_R_stripesOf, [Cond.code y_R_stripesOf c_R_stripesOf 2 (some .int)], 2, (some .int), { frames := 0, cells := 0, slots := 0, locals := 0 }, (0, 0), [])
def i_R_place : MI := (y_R_place, NR, "place", c_R_place, [Cond.code y_R_place c_R_place 4 (some .int)], 4, (some .int), { frames := 0, cells := 0, slots := 0, locals := 0 }, (0, 0), [])
def i_R_lost : MI := (y_R_lost, NR, "lost", c_R_lost, [Cond.code y_R_lost c_R_lost 5 (some .int)], 5, (some .int), { frames := 1, cells := 0, slots := 0, locals := 23 }, (0, 0), [])
def i_R_worked : MI := (y_R_worked, NR, "worked", c_R_worked, [Cond.code y_R_worked c_R_worked 5 (some .int)], 5, (some .int), { frames := 1, cells := 0, slots := 0, locals := 24 }, (0, 0), [])
def i_R_writeRows : MI := (y_R_writeRows, NR, "writeRows", c_R_writeRows, [Cond.code y_R_writeRows c_R_writeRows 7 none], 7, none, { frames := 1, cells := 0, slots := 0, locals := 23 }, (0, 0), [])
def i_R_solve : MI := (y_R_solve, NR, "solve", c_R_solve, [Cond.code y_R_solve c_R_solve 7 none], 7, none, { frames := 2, cells := 0, slots := 0, locals := 45 }, (0, 0), [])
def i_R_readStripe : MI := (y_R_readStripe, NR, "readStripe", c_R_readStripe, [Cond.code y_R_readStripe c_R_readStripe 5 none], 5, none, { frames := 3, cells := 0, slots := 0, locals := 71 }, (0, 0), [])
def i_R_free : MI := (y_R_free, NR, "free", c_R_free, [Cond.code y_R_free c_R_free 4 (some .int)], 4, (some .int), { frames := 0, cells := 0, slots := 0, locals := 0 }, (0, 0), [])
def i_R_slotFor : MI := (y_R_slotFor, NR, "slotFor", c_R_slotFor, [Cond.code y_R_slotFor c_R_slotFor 7 (some .int)], 7, (some .int), { frames := 1, cells := 0, slots := 0, locals := 23 }, (0, 0), [])
def i_R_lay : MI := (y_R_lay, NR, "lay", c_R_lay, [Cond.code y_R_lay c_R_lay 6 (some .boolean)], 6, (some .boolean), { frames := 2, cells := 0, slots := 0, locals := 49 }, (0, 0), [])
def i_R_clear : MI := (y_R_clear, NR, "clear", c_R_clear, [Cond.code y_R_clear c_R_clear 4 (some .int)], 4, (some .int), { frames := 0, cells := 0, slots := 0, locals := 0 }, (0, 0), [])
def i_R_isObject : MI := (y_R_isObject, NR, "isObject", c_R_isObject, [Cond.code y_R_isObject c_R_isObject 1 (some .boolean)], 1, (some .boolean), { frames := 0, cells := 0, slots := 0, locals := 0 }, (0, 0), [])
def i_R_store : MI := (y_R_store, NR, "store", c_R_store, [Cond.code y_R_store c_R_store 7 (some .int)], 7, (some .int), { frames := 3, cells := 0, slots := 0, locals := 74 }, (0, 0), [])
def i_R_isThere : MI := (y_R_isThere, NR, "isThere", c_R_isThere, [Cond.code y_R_isThere c_R_isThere 2 (some .boolean)], 2, (some .boolean), { frames := 1, cells := 0, slots := 0, locals := 20 }, (0, 0), [])
def i_R_drop : MI := (y_R_drop, NR, "drop", c_R_drop, [Cond.code y_R_drop c_R_drop 2 (some .int)], 2, (some .int), { frames := 2, cells := 0, slots := 0, locals := 41 }, (0, 0), [])
def i_R_get : MI := (y_R_get, NR, "get", c_R_get, [Cond.code y_R_get c_R_get 5 (some .int)], 5, (some .int), { frames := 4, cells := 0, slots := 0, locals := 95 }, (0, 0), [])
def i_R_at : MI := (y_R_at, NR, "at", c_R_at, [Cond.code y_R_at c_R_at 2 (some .int)], 2, (some .int), { frames := 0, cells := 0, slots := 0, locals := 0 }, (0, 0), [])
def i_R_isDisk : MI := (y_R_isDisk, NR, "isDisk", c_R_isDisk, [Cond.code y_R_isDisk c_R_isDisk 1 (some .boolean)], 1, (some .boolean), { frames := 0, cells := 0, slots := 0, locals := 0 }, (0, 0), [])
def i_R_fail : MI := (y_R_fail, NR, "fail", c_R_fail, [Cond.code y_R_fail c_R_fail 5 (some .int)], 5, (some .int), { frames := 1, cells := 0, slots := 0, locals := 20 }, (0, 0), [])
def i_R_renew : MI := (y_R_renew, NR, "renew", c_R_renew, [Cond.code y_R_renew c_R_renew 4 (some .int)], 4, (some .int), { frames := 1, cells := 0, slots := 0, locals := 20 }, (0, 0), [])
def i_R_repair : MI := (y_R_repair, NR, "repair", c_R_repair, [Cond.code y_R_repair c_R_repair 6 (some .int)], 6, (some .int), { frames := 4, cells := 0, slots := 0, locals := 95 }, (0, 0), [])
def i_R_check : MI := (y_R_check, NR, "check", c_R_check, [Cond.code y_R_check c_R_check 7 (some .int)], 7, (some .int), { frames := 4, cells := 0, slots := 0, locals := 95 }, (0, 0), [])
def i_R_refusal : MI := (y_R_refusal, NR, "refusal", c_R_refusal, [Cond.code y_R_refusal c_R_refusal 4 (some .int)], 4, (some .int), { frames := 1, cells := 0, slots := 0, locals := 20 }, (0, 0), [])
def i_R_harm : MI := (y_R_harm, NR, "harm", c_R_harm, [Cond.code y_R_harm c_R_harm 6 (some .int)], 6, (some .int), { frames := 2, cells := 0, slots := 0, locals := 43 }, (0, 0), [])
def i_R_stored : MI := (y_R_stored, NR, "stored", c_R_stored, [Cond.code y_R_stored c_R_stored 4 (some .int)], 4, (some .int), { frames := 2, cells := 0, slots := 0, locals := 43 }, (0, 0), [])
def i_R_where : MI := (y_R_where, NR, "where", c_R_where, [Cond.code y_R_where c_R_where 5 (some .int)], 5, (some .int), { frames := 2, cells := 0, slots := 0, locals := 41 }, (0, 0), [])
def i_R_length : MI := (y_R_length, NR, "length", c_R_length, [Cond.code y_R_length c_R_length 2 (some .int)], 2, (some .int), { frames := 2, cells := 0, slots := 0, locals := 41 }, (0, 0), [])
def i_R_room : MI := (y_R_room, NR, "room", c_R_room, [Cond.code y_R_room c_R_room 2 (some .int)], 2, (some .int), { frames := 1, cells := 0, slots := 0, locals := 23 }, (0, 0), [])
def i_R_product : MI := (y_R_product, NR, "product", c_R_product, [Cond.code y_R_product c_R_product 3 (some .int)], 3, (some .int), { frames := 2, cells := 0, slots := 0, locals := 45 }, (0, 0), [])
def i_G_init : MI := (y_G_init, NG, "<init>", c_G_init, [Cond.code y_G_init c_G_init 3 none], 3, none, { frames := 1, cells := 2, slots := 342, locals := 23 }, (2, 342), [])
def i_G_holds : MI := (y_G_holds, NG, "holds", c_G_holds, [Cond.code y_G_holds c_G_holds 2 (some .boolean)], 2, (some .boolean), { frames := 0, cells := 0, slots := 0, locals := 0 }, (0, 0), [])
def i_G_lengthOf : MI := (y_G_lengthOf, NG, "lengthOf", c_G_lengthOf, [Cond.code y_G_lengthOf c_G_lengthOf 2 (some .int)], 2, (some .int), { frames := 0, cells := 0, slots := 0, locals := 0 }, (0, 0), [])
def i_G_stripesOf : MI := (y_G_stripesOf, NG, "stripesOf", c_G_stripesOf, [Cond.code y_G_stripesOf c_G_stripesOf 2 (some .int)], 2, (some .int), { frames := 0, cells := 0, slots := 0, locals := 0 }, (0, 0), [])
def i_G_enter : MI := (y_G_enter, NG, "enter", c_G_enter, [Cond.code y_G_enter c_G_enter 3 none], 3, none, { frames := 0, cells := 0, slots := 0, locals := 0 }, (0, 0), [])
def i_G_strike : MI := (y_G_strike, NG, "strike", c_G_strike, [Cond.code y_G_strike c_G_strike 2 none], 2, none, { frames := 0, cells := 0, slots := 0, locals := 0 }, (0, 0), [])
def i_G_rowOf : MI := (y_G_rowOf, NG, "rowOf", c_G_rowOf, [Cond.code y_G_rowOf c_G_rowOf 3 (some .int)], 3, (some .int), { frames := 0, cells := 0, slots := 0, locals := 0 }, (0, 0), [])
def i_G_placeOf : MI := (y_G_placeOf, NG, "placeOf", c_G_placeOf, [Cond.code y_G_placeOf c_G_placeOf 3 (some .int)], 3, (some .int), { frames := 0, cells := 0, slots := 0, locals := 0 }, (0, 0), [])
def i_G_setPlace : MI := (y_G_setPlace, NG, "setPlace", c_G_setPlace, [Cond.code y_G_setPlace c_G_setPlace 4 none], 4, none, { frames := 0, cells := 0, slots := 0, locals := 0 }, (0, 0), [])
def i_G_countLost : MI := (y_G_countLost, NG, "countLost", c_G_countLost, [Cond.code y_G_countLost c_G_countLost 4 (some .int)], 4, (some .int), { frames := 0, cells := 0, slots := 0, locals := 0 }, (0, 0), [])
def i_G_isOnDisk : MI := (y_G_isOnDisk, NG, "isOnDisk", c_G_isOnDisk, [Cond.code y_G_isOnDisk c_G_isOnDisk 4 (some .boolean)], 4, (some .boolean), { frames := 1, cells := 0, slots := 0, locals := 21 }, (0, 0), [])
def i_G_loseDisk : MI := (y_G_loseDisk, NG, "loseDisk", c_G_loseDisk, [Cond.code y_G_loseDisk c_G_loseDisk 3 none], 3, none, { frames := 1, cells := 0, slots := 0, locals := 21 }, (0, 0), [])
def i_G_isPlaceOnDisk : MI := (y_G_isPlaceOnDisk, NG, "isPlaceOnDisk", c_G_isPlaceOnDisk, [Cond.code y_G_isPlaceOnDisk c_G_isPlaceOnDisk 2 (some .boolean)], 2, (some .boolean), { frames := 0, cells := 0, slots := 0, locals := 0 }, (0, 0), [])
def i_C_init : MI := (y_C_init, NC, "<init>", c_C_init, [Cond.code y_C_init c_C_init 5 none], 5, none, { frames := 3, cells := 3, slots := 60, locals := 69 }, (3, 60), [])
def i_C_factor : MI := (y_C_factor, NC, "factor", c_C_factor, [Cond.code y_C_factor c_C_factor 3 (some .int)], 3, (some .int), { frames := 2, cells := 0, slots := 0, locals := 47 }, (0, 0), [])
def i_C_shardByte : MI := (y_C_shardByte, NC, "shardByte", c_C_shardByte, [Cond.code y_C_shardByte c_C_shardByte 5 (some .int)], 5, (some .int), { frames := 1, cells := 0, slots := 0, locals := 24 }, (0, 0), [])
def i_C_setEquation : MI := (y_C_setEquation, NC, "setEquation", c_C_setEquation, [Cond.code y_C_setEquation c_C_setEquation 3 none], 3, none, { frames := 1, cells := 0, slots := 0, locals := 60 }, (0, 0), [])
def i_C_solve : MI := (y_C_solve, NC, "solve", c_C_solve, [Cond.code y_C_solve c_C_solve 4 none], 4, none, { frames := 2, cells := 0, slots := 0, locals := 48 }, (0, 0), [])
def i_C_multiplyLine : MI := (y_C_multiplyLine, NC, "multiplyLine", c_C_multiplyLine, [Cond.code y_C_multiplyLine c_C_multiplyLine 5 none], 5, none, { frames := 1, cells := 0, slots := 0, locals := 24 }, (0, 0), [])
def i_C_addLine : MI := (y_C_addLine, NC, "addLine", c_C_addLine, [Cond.code y_C_addLine c_C_addLine 5 none], 5, none, { frames := 1, cells := 0, slots := 0, locals := 24 }, (0, 0), [])
def i_D_init : MI := (y_D_init, ND, "<init>", c_D_init, [Cond.code y_D_init c_D_init 2 none], 2, none, { frames := 1, cells := 4, slots := 656, locals := 21 }, (4, 656), [])
def i_D_isAlive : MI := (y_D_isAlive, ND, "isAlive", c_D_isAlive, [Cond.code y_D_isAlive c_D_isAlive 2 (some .boolean)], 2, (some .boolean), { frames := 0, cells := 0, slots := 0, locals := 0 }, (0, 0), [])
def i_D_countAlive : MI := (y_D_countAlive, ND, "countAlive", c_D_countAlive, [Cond.code y_D_countAlive c_D_countAlive 3 (some .int)], 3, (some .int), { frames := 0, cells := 0, slots := 0, locals := 0 }, (0, 0), [])
def i_D_freeSlotsOf : MI := (y_D_freeSlotsOf, ND, "freeSlotsOf", c_D_freeSlotsOf, [Cond.code y_D_freeSlotsOf c_D_freeSlotsOf 2 (some .int)], 2, (some .int), { frames := 0, cells := 0, slots := 0, locals := 0 }, (0, 0), [])
def i_D_stop : MI := (y_D_stop, ND, "stop", c_D_stop, [Cond.code y_D_stop c_D_stop 3 none], 3, none, { frames := 1, cells := 0, slots := 0, locals := 21 }, (0, 0), [])
def i_D_start : MI := (y_D_start, ND, "start", c_D_start, [Cond.code y_D_start c_D_start 2 none], 2, none, { frames := 0, cells := 0, slots := 0, locals := 0 }, (0, 0), [])
def i_D_isTaken : MI := (y_D_isTaken, ND, "isTaken", c_D_isTaken, [Cond.code y_D_isTaken c_D_isTaken 2 (some .boolean)], 2, (some .boolean), { frames := 0, cells := 0, slots := 0, locals := 0 }, (0, 0), [])
def i_D_takeSlot : MI := (y_D_takeSlot, ND, "takeSlot", c_D_takeSlot, [Cond.code y_D_takeSlot c_D_takeSlot 4 (some .int)], 4, (some .int), { frames := 1, cells := 0, slots := 0, locals := 21 }, (0, 0), [])
def i_D_releaseSlot : MI := (y_D_releaseSlot, ND, "releaseSlot", c_D_releaseSlot, [Cond.code y_D_releaseSlot c_D_releaseSlot 2 none], 2, none, { frames := 0, cells := 0, slots := 0, locals := 0 }, (0, 0), [])
def i_D_byteAt : MI := (y_D_byteAt, ND, "byteAt", c_D_byteAt, [Cond.code y_D_byteAt c_D_byteAt 3 (some .int)], 3, (some .int), { frames := 0, cells := 0, slots := 0, locals := 0 }, (0, 0), [])
def i_D_setByte : MI := (y_D_setByte, ND, "setByte", c_D_setByte, [Cond.code y_D_setByte c_D_setByte 4 none], 4, none, { frames := 0, cells := 0, slots := 0, locals := 0 }, (0, 0), [])
def i_L_cell : MI := (y_L_cell, NL, "cell", c_L_cell, [Cond.code y_L_cell c_L_cell 2 (some .int)], 2, (some .int), { frames := 0, cells := 0, slots := 0, locals := 0 }, (0, 0), [])
def i_A_fill : MI := (y_A_fill, NA, "fill", c_A_fill, [Cond.code y_A_fill c_A_fill 4 none], 4, none, { frames := 0, cells := 0, slots := 0, locals := 0 }, (0, 0), [])
end
section
/-! The links, printed by wip/whole/gen/infos.py -/
theorem lays_V : ∀ w ∈ u_ws NV TV 7, w ∈ lw_tbl ∧ okw w = true := by decide +kernel
theorem lays_C : ∀ w ∈ u_ws NC TC 6, w ∈ lw_tbl ∧ okw w = true := by decide +kernel
theorem lays_D : ∀ w ∈ u_ws ND TD 4, w ∈ lw_tbl ∧ okw w = true := by decide +kernel
theorem lays_G : ∀ w ∈ u_ws NG TG 4, w ∈ lw_tbl ∧ okw w = true := by decide +kernel
theorem lays_R : ∀ w ∈ u_ws NR TR 16, w ∈ lw_tbl ∧ okw w = true := by decide +kernel
theorem fm_V_18 : Cond.fieldLink NV 18 NV "coder" "LStripeVault$Coder;" ∈ lw_tbl := by decide +kernel
theorem fl_V_18 : FL NV 18 0 0 := ⟨NV, TV, 7, NV, rfl, by decide, lays_V, fm_V_18, rfl⟩
theorem fm_V_25 : Cond.fieldLink NV 25 NV "disks" "LStripeVault$Disks;" ∈ lw_tbl := by decide +kernel
theorem fl_V_25 : FL NV 25 0 1 := ⟨NV, TV, 7, NV, rfl, by decide, lays_V, fm_V_25, rfl⟩
theorem fm_V_32 : Cond.fieldLink NV 32 NV "catalogue" "LStripeVault$Catalogue;" ∈ lw_tbl := by decide +kernel
theorem fl_V_32 : FL NV 32 0 2 := ⟨NV, TV, 7, NV, rfl, by decide, lays_V, fm_V_32, rfl⟩
theorem fm_V_36 : Cond.fieldLink NV 36 NV "draft" "[I" ∈ lw_tbl := by decide +kernel
theorem fl_V_36 : FL NV 36 0 3 := ⟨NV, TV, 7, NV, rfl, by decide, lays_V, fm_V_36, rfl⟩
theorem fm_V_40 : Cond.fieldLink NV 40 NV "draftLength" "I" ∈ lw_tbl := by decide +kernel
theorem fl_V_40 : FL NV 40 0 4 := ⟨NV, TV, 7, NV, rfl, by decide, lays_V, fm_V_40, rfl⟩
theorem fm_V_44 : Cond.fieldLink NV 44 NV "output" "[I" ∈ lw_tbl := by decide +kernel
theorem fl_V_44 : FL NV 44 0 5 := ⟨NV, TV, 7, NV, rfl, by decide, lays_V, fm_V_44, rfl⟩
theorem fm_V_47 : Cond.fieldLink NV 47 NV "outputLength" "I" ∈ lw_tbl := by decide +kernel
theorem fl_V_47 : FL NV 47 0 6 := ⟨NV, TV, 7, NV, rfl, by decide, lays_V, fm_V_47, rfl⟩
theorem fm_V_142 : Cond.fieldLink NV 142 NC "shards" "I" ∈ lw_tbl := by decide +kernel
theorem fl_V_142 : FL NV 142 1 1 := ⟨NC, TC, 6, NC, rfl, by decide, lays_C, fm_V_142, rfl⟩
theorem fm_V_184 : Cond.fieldLink NV 184 NC "dataBytes" "I" ∈ lw_tbl := by decide +kernel
theorem fl_V_184 : FL NV 184 1 2 := ⟨NC, TC, 6, NC, rfl, by decide, lays_C, fm_V_184, rfl⟩
theorem fm_V_187 : Cond.fieldLink NV 187 NC "data" "[I" ∈ lw_tbl := by decide +kernel
theorem fl_V_187 : FL NV 187 1 3 := ⟨NC, TC, 6, NC, rfl, by decide, lays_C, fm_V_187, rfl⟩
theorem fm_V_214 : Cond.fieldLink NV 214 NC "dataShards" "I" ∈ lw_tbl := by decide +kernel
theorem fl_V_214 : FL NV 214 1 0 := ⟨NC, TC, 6, NC, rfl, by decide, lays_C, fm_V_214, rfl⟩
theorem fm_R_7 : Cond.fieldLink NR 7 NR "draft" "[I" ∈ lw_tbl := by decide +kernel
theorem fl_R_7 : FL NR 7 4 3 := ⟨NR, TR, 16, NR, rfl, by decide, lays_R, fm_R_7, rfl⟩
theorem fm_R_13 : Cond.fieldLink NR 13 NR "alive" "[Z" ∈ lw_tbl := by decide +kernel
theorem fl_R_13 : FL NR 13 4 5 := ⟨NR, TR, 16, NR, rfl, by decide, lays_R, fm_R_13, rfl⟩
theorem fm_R_17 : Cond.fieldLink NR 17 NR "used" "[Z" ∈ lw_tbl := by decide +kernel
theorem fl_R_17 : FL NR 17 4 6 := ⟨NR, TR, 16, NR, rfl, by decide, lays_R, fm_R_17, rfl⟩
theorem fm_R_20 : Cond.fieldLink NR 20 NR "bytes" "[I" ∈ lw_tbl := by decide +kernel
theorem fl_R_20 : FL NR 20 4 7 := ⟨NR, TR, 16, NR, rfl, by decide, lays_R, fm_R_20, rfl⟩
theorem fm_R_23 : Cond.fieldLink NR 23 NR "lengths" "[I" ∈ lw_tbl := by decide +kernel
theorem fl_R_23 : FL NR 23 4 8 := ⟨NR, TR, 16, NR, rfl, by decide, lays_R, fm_R_23, rfl⟩
theorem fm_R_26 : Cond.fieldLink NR 26 NR "places" "[I" ∈ lw_tbl := by decide +kernel
theorem fl_R_26 : FL NR 26 4 9 := ⟨NR, TR, 16, NR, rfl, by decide, lays_R, fm_R_26, rfl⟩
theorem fm_R_29 : Cond.fieldLink NR 29 NR "factors" "[I" ∈ lw_tbl := by decide +kernel
theorem fl_R_29 : FL NR 29 4 10 := ⟨NR, TR, 16, NR, rfl, by decide, lays_R, fm_R_29, rfl⟩
theorem fm_R_32 : Cond.fieldLink NR 32 NR "out" "[I" ∈ lw_tbl := by decide +kernel
theorem fl_R_32 : FL NR 32 4 12 := ⟨NR, TR, 16, NR, rfl, by decide, lays_R, fm_R_32, rfl⟩
theorem fm_R_35 : Cond.fieldLink NR 35 NR "read" "[I" ∈ lw_tbl := by decide +kernel
theorem fl_R_35 : FL NR 35 4 13 := ⟨NR, TR, 16, NR, rfl, by decide, lays_R, fm_R_35, rfl⟩
theorem fm_R_38 : Cond.fieldLink NR 38 NR "stripe" "[I" ∈ lw_tbl := by decide +kernel
theorem fl_R_38 : FL NR 38 4 14 := ⟨NR, TR, 16, NR, rfl, by decide, lays_R, fm_R_38, rfl⟩
theorem fm_R_41 : Cond.fieldLink NR 41 NR "rows" "[I" ∈ lw_tbl := by decide +kernel
theorem fl_R_41 : FL NR 41 4 15 := ⟨NR, TR, 16, NR, rfl, by decide, lays_R, fm_R_41, rfl⟩
theorem fm_R_44 : Cond.fieldLink NR 44 NR "data" "I" ∈ lw_tbl := by decide +kernel
theorem fl_R_44 : FL NR 44 4 0 := ⟨NR, TR, 16, NR, rfl, by decide, lays_R, fm_R_44, rfl⟩
theorem fm_R_48 : Cond.fieldLink NR 48 NR "more" "I" ∈ lw_tbl := by decide +kernel
theorem fl_R_48 : FL NR 48 4 1 := ⟨NR, TR, 16, NR, rfl, by decide, lays_R, fm_R_48, rfl⟩
theorem fm_R_59 : Cond.fieldLink NR 59 NR "code" "I" ∈ lw_tbl := by decide +kernel
theorem fl_R_59 : FL NR 59 4 2 := ⟨NR, TR, 16, NR, rfl, by decide, lays_R, fm_R_59, rfl⟩
theorem fm_R_62 : Cond.fieldLink NR 62 NR "size" "I" ∈ lw_tbl := by decide +kernel
theorem fl_R_62 : FL NR 62 4 4 := ⟨NR, TR, 16, NR, rfl, by decide, lays_R, fm_R_62, rfl⟩
theorem fm_R_118 : Cond.fieldLink NR 118 NR "outSize" "I" ∈ lw_tbl := by decide +kernel
theorem fl_R_118 : FL NR 118 4 11 := ⟨NR, TR, 16, NR, rfl, by decide, lays_R, fm_R_118, rfl⟩
theorem fm_G_9 : Cond.fieldLink NG 9 NG "shards" "I" ∈ lw_tbl := by decide +kernel
theorem fl_G_9 : FL NG 9 3 0 := ⟨NG, TG, 4, NG, rfl, by decide, lays_G, fm_G_9, rfl⟩
theorem fm_G_15 : Cond.fieldLink NG 15 NG "stripeBytes" "I" ∈ lw_tbl := by decide +kernel
theorem fl_G_15 : FL NG 15 3 1 := ⟨NG, TG, 4, NG, rfl, by decide, lays_G, fm_G_15, rfl⟩
theorem fm_G_18 : Cond.fieldLink NG 18 NG "lengths" "[I" ∈ lw_tbl := by decide +kernel
theorem fl_G_18 : FL NG 18 3 2 := ⟨NG, TG, 4, NG, rfl, by decide, lays_G, fm_G_18, rfl⟩
theorem fm_G_22 : Cond.fieldLink NG 22 NG "places" "[I" ∈ lw_tbl := by decide +kernel
theorem fl_G_22 : FL NG 22 3 3 := ⟨NG, TG, 4, NG, rfl, by decide, lays_G, fm_G_22, rfl⟩
theorem fm_C_9 : Cond.fieldLink NC 9 NC "dataShards" "I" ∈ lw_tbl := by decide +kernel
theorem fl_C_9 : FL NC 9 1 0 := ⟨NC, TC, 6, NC, rfl, by decide, lays_C, fm_C_9, rfl⟩
theorem fm_C_15 : Cond.fieldLink NC 15 NC "shards" "I" ∈ lw_tbl := by decide +kernel
theorem fl_C_15 : FL NC 15 1 1 := ⟨NC, TC, 6, NC, rfl, by decide, lays_C, fm_C_15, rfl⟩
theorem fm_C_18 : Cond.fieldLink NC 18 NC "dataBytes" "I" ∈ lw_tbl := by decide +kernel
theorem fl_C_18 : FL NC 18 1 2 := ⟨NC, TC, 6, NC, rfl, by decide, lays_C, fm_C_18, rfl⟩
theorem fm_C_21 : Cond.fieldLink NC 21 NC "data" "[I" ∈ lw_tbl := by decide +kernel
theorem fl_C_21 : FL NC 21 1 3 := ⟨NC, TC, 6, NC, rfl, by decide, lays_C, fm_C_21, rfl⟩
theorem fm_C_25 : Cond.fieldLink NC 25 NC "equations" "[I" ∈ lw_tbl := by decide +kernel
theorem fl_C_25 : FL NC 25 1 5 := ⟨NC, TC, 6, NC, rfl, by decide, lays_C, fm_C_25, rfl⟩
theorem fm_C_28 : Cond.fieldLink NC 28 NC "factors" "[I" ∈ lw_tbl := by decide +kernel
theorem fl_C_28 : FL NC 28 1 4 := ⟨NC, TC, 6, NC, rfl, by decide, lays_C, fm_C_28, rfl⟩
theorem fm_D_9 : Cond.fieldLink ND 9 ND "alive" "[Z" ∈ lw_tbl := by decide +kernel
theorem fl_D_9 : FL ND 9 2 0 := ⟨ND, TD, 4, ND, rfl, by decide, lays_D, fm_D_9, rfl⟩
theorem fm_D_15 : Cond.fieldLink ND 15 ND "freeSlots" "[I" ∈ lw_tbl := by decide +kernel
theorem fl_D_15 : FL ND 15 2 1 := ⟨ND, TD, 4, ND, rfl, by decide, lays_D, fm_D_15, rfl⟩
theorem fm_D_19 : Cond.fieldLink ND 19 ND "taken" "[Z" ∈ lw_tbl := by decide +kernel
theorem fl_D_19 : FL ND 19 2 2 := ⟨ND, TD, 4, ND, rfl, by decide, lays_D, fm_D_19, rfl⟩
theorem fm_D_22 : Cond.fieldLink ND 22 ND "bytes" "[I" ∈ lw_tbl := by decide +kernel
theorem fl_D_22 : FL ND 22 2 3 := ⟨ND, TD, 4, ND, rfl, by decide, lays_D, fm_D_22, rfl⟩
theorem fs_V_18 : FS NV "<init>" 18 0 0 (.object "StripeVault$Coder") := ⟨NV, TV, 7, NV, tyV, rfl, by decide, lays_V, fm_V_18, rfl, tokV, nmV, rfl, Or.inr ⟨rfl, rfl, rfl⟩⟩
theorem fs_V_25 : FS NV "<init>" 25 0 1 (.object "StripeVault$Disks") := ⟨NV, TV, 7, NV, tyV, rfl, by decide, lays_V, fm_V_25, rfl, tokV, nmV, rfl, Or.inr ⟨rfl, rfl, rfl⟩⟩
theorem fs_V_32 : FS NV "<init>" 32 0 2 (.object "StripeVault$Catalogue") := ⟨NV, TV, 7, NV, tyV, rfl, by decide, lays_V, fm_V_32, rfl, tokV, nmV, rfl, Or.inr ⟨rfl, rfl, rfl⟩⟩
theorem fs_V_36 : FS NV "<init>" 36 0 3 (.array .int) := ⟨NV, TV, 7, NV, tyV, rfl, by decide, lays_V, fm_V_36, rfl, tokV, nmV, rfl, Or.inr ⟨rfl, rfl, rfl⟩⟩
theorem fs_V_40 (nm : String) : FS NV nm 40 0 4 (.int) := ⟨NV, TV, 7, NV, tyV, rfl, by decide, lays_V, fm_V_40, rfl, tokV, nmV, rfl, Or.inl rfl⟩
theorem fs_V_44 : FS NV "<init>" 44 0 5 (.array .int) := ⟨NV, TV, 7, NV, tyV, rfl, by decide, lays_V, fm_V_44, rfl, tokV, nmV, rfl, Or.inr ⟨rfl, rfl, rfl⟩⟩
theorem fs_V_47 (nm : String) : FS NV nm 47 0 6 (.int) := ⟨NV, TV, 7, NV, tyV, rfl, by decide, lays_V, fm_V_47, rfl, tokV, nmV, rfl, Or.inl rfl⟩
theorem fs_R_7 : FS NR "<init>" 7 4 3 (.array .int) := ⟨NR, TR, 16, NR, tyR, rfl, by decide, lays_R, fm_R_7, rfl, tokR, nmR, rfl, Or.inr ⟨rfl, rfl, rfl⟩⟩
theorem fs_R_13 : FS NR "<init>" 13 4 5 (.array .boolean) := ⟨NR, TR, 16, NR, tyR, rfl, by decide, lays_R, fm_R_13, rfl, tokR, nmR, rfl, Or.inr ⟨rfl, rfl, rfl⟩⟩
theorem fs_R_17 : FS NR "<init>" 17 4 6 (.array .boolean) := ⟨NR, TR, 16, NR, tyR, rfl, by decide, lays_R, fm_R_17, rfl, tokR, nmR, rfl, Or.inr ⟨rfl, rfl, rfl⟩⟩
theorem fs_R_20 : FS NR "<init>" 20 4 7 (.array .int) := ⟨NR, TR, 16, NR, tyR, rfl, by decide, lays_R, fm_R_20, rfl, tokR, nmR, rfl, Or.inr ⟨rfl, rfl, rfl⟩⟩
theorem fs_R_23 : FS NR "<init>" 23 4 8 (.array .int) := ⟨NR, TR, 16, NR, tyR, rfl, by decide, lays_R, fm_R_23, rfl, tokR, nmR, rfl, Or.inr ⟨rfl, rfl, rfl⟩⟩
theorem fs_R_26 : FS NR "<init>" 26 4 9 (.array .int) := ⟨NR, TR, 16, NR, tyR, rfl, by decide, lays_R, fm_R_26, rfl, tokR, nmR, rfl, Or.inr ⟨rfl, rfl, rfl⟩⟩
theorem fs_R_29 : FS NR "<init>" 29 4 10 (.array .int) := ⟨NR, TR, 16, NR, tyR, rfl, by decide, lays_R, fm_R_29, rfl, tokR, nmR, rfl, Or.inr ⟨rfl, rfl, rfl⟩⟩
theorem fs_R_32 : FS NR "<init>" 32 4 12 (.array .int) := ⟨NR, TR, 16, NR, tyR, rfl, by decide, lays_R, fm_R_32, rfl, tokR, nmR, rfl, Or.inr ⟨rfl, rfl, rfl⟩⟩
theorem fs_R_35 : FS NR "<init>" 35 4 13 (.array .int) := ⟨NR, TR, 16, NR, tyR, rfl, by decide, lays_R, fm_R_35, rfl, tokR, nmR, rfl, Or.inr ⟨rfl, rfl, rfl⟩⟩
theorem fs_R_38 : FS NR "<init>" 38 4 14 (.array .int) := ⟨NR, TR, 16, NR, tyR, rfl, by decide, lays_R, fm_R_38, rfl, tokR, nmR, rfl, Or.inr ⟨rfl, rfl, rfl⟩⟩
theorem fs_R_41 : FS NR "<init>" 41 4 15 (.array .int) := ⟨NR, TR, 16, NR, tyR, rfl, by decide, lays_R, fm_R_41, rfl, tokR, nmR, rfl, Or.inr ⟨rfl, rfl, rfl⟩⟩
theorem fs_R_44 : FS NR "<init>" 44 4 0 (.int) := ⟨NR, TR, 16, NR, tyR, rfl, by decide, lays_R, fm_R_44, rfl, tokR, nmR, rfl, Or.inr ⟨rfl, rfl, rfl⟩⟩
theorem fs_R_48 : FS NR "<init>" 48 4 1 (.int) := ⟨NR, TR, 16, NR, tyR, rfl, by decide, lays_R, fm_R_48, rfl, tokR, nmR, rfl, Or.inr ⟨rfl, rfl, rfl⟩⟩
theorem fs_R_59 (nm : String) : FS NR nm 59 4 2 (.int) := ⟨NR, TR, 16, NR, tyR, rfl, by decide, lays_R, fm_R_59, rfl, tokR, nmR, rfl, Or.inl rfl⟩
theorem fs_R_62 (nm : String) : FS NR nm 62 4 4 (.int) := ⟨NR, TR, 16, NR, tyR, rfl, by decide, lays_R, fm_R_62, rfl, tokR, nmR, rfl, Or.inl rfl⟩
theorem fs_R_118 (nm : String) : FS NR nm 118 4 11 (.int) := ⟨NR, TR, 16, NR, tyR, rfl, by decide, lays_R, fm_R_118, rfl, tokR, nmR, rfl, Or.inl rfl⟩
theorem fs_G_9 : FS NG "<init>" 9 3 0 (.int) := ⟨NG, TG, 4, NG, tyG, rfl, by decide, lays_G, fm_G_9, rfl, tokG, nmG, rfl, Or.inr ⟨rfl, rfl, rfl⟩⟩
theorem fs_G_15 : FS NG "<init>" 15 3 1 (.int) := ⟨NG, TG, 4, NG, tyG, rfl, by decide, lays_G, fm_G_15, rfl, tokG, nmG, rfl, Or.inr ⟨rfl, rfl, rfl⟩⟩
theorem fs_G_18 : FS NG "<init>" 18 3 2 (.array .int) := ⟨NG, TG, 4, NG, tyG, rfl, by decide, lays_G, fm_G_18, rfl, tokG, nmG, rfl, Or.inr ⟨rfl, rfl, rfl⟩⟩
theorem fs_G_22 : FS NG "<init>" 22 3 3 (.array .int) := ⟨NG, TG, 4, NG, tyG, rfl, by decide, lays_G, fm_G_22, rfl, tokG, nmG, rfl, Or.inr ⟨rfl, rfl, rfl⟩⟩
theorem fs_C_9 : FS NC "<init>" 9 1 0 (.int) := ⟨NC, TC, 6, NC, tyC, rfl, by decide, lays_C, fm_C_9, rfl, tokC, nmC, rfl, Or.inr ⟨rfl, rfl, rfl⟩⟩
theorem fs_C_15 : FS NC "<init>" 15 1 1 (.int) := ⟨NC, TC, 6, NC, tyC, rfl, by decide, lays_C, fm_C_15, rfl, tokC, nmC, rfl, Or.inr ⟨rfl, rfl, rfl⟩⟩
theorem fs_C_18 : FS NC "<init>" 18 1 2 (.int) := ⟨NC, TC, 6, NC, tyC, rfl, by decide, lays_C, fm_C_18, rfl, tokC, nmC, rfl, Or.inr ⟨rfl, rfl, rfl⟩⟩
theorem fs_C_21 : FS NC "<init>" 21 1 3 (.array .int) := ⟨NC, TC, 6, NC, tyC, rfl, by decide, lays_C, fm_C_21, rfl, tokC, nmC, rfl, Or.inr ⟨rfl, rfl, rfl⟩⟩
theorem fs_C_25 : FS NC "<init>" 25 1 5 (.array .int) := ⟨NC, TC, 6, NC, tyC, rfl, by decide, lays_C, fm_C_25, rfl, tokC, nmC, rfl, Or.inr ⟨rfl, rfl, rfl⟩⟩
theorem fs_C_28 : FS NC "<init>" 28 1 4 (.array .int) := ⟨NC, TC, 6, NC, tyC, rfl, by decide, lays_C, fm_C_28, rfl, tokC, nmC, rfl, Or.inr ⟨rfl, rfl, rfl⟩⟩
theorem fs_D_9 : FS ND "<init>" 9 2 0 (.array .boolean) := ⟨ND, TD, 4, ND, tyD, rfl, by decide, lays_D, fm_D_9, rfl, tokD, nmD, rfl, Or.inr ⟨rfl, rfl, rfl⟩⟩
theorem fs_D_15 : FS ND "<init>" 15 2 1 (.array .int) := ⟨ND, TD, 4, ND, tyD, rfl, by decide, lays_D, fm_D_15, rfl, tokD, nmD, rfl, Or.inr ⟨rfl, rfl, rfl⟩⟩
theorem fs_D_19 : FS ND "<init>" 19 2 2 (.array .boolean) := ⟨ND, TD, 4, ND, tyD, rfl, by decide, lays_D, fm_D_19, rfl, tokD, nmD, rfl, Or.inr ⟨rfl, rfl, rfl⟩⟩
theorem fs_D_22 : FS ND "<init>" 22 2 3 (.array .int) := ⟨ND, TD, 4, ND, tyD, rfl, by decide, lays_D, fm_D_22, rfl, tokD, nmD, rfl, Or.inr ⟨rfl, rfl, rfl⟩⟩
theorem cb_V_init : Cond.code y_V_init c_V_init 5 none ∈ lw_tbl := by decide +kernel
theorem cb_V_put : Cond.code y_V_put c_V_put 5 (some .boolean) ∈ lw_tbl := by decide +kernel
theorem cb_V_scrap : Cond.code y_V_scrap c_V_scrap 1 none ∈ lw_tbl := by decide +kernel
theorem cb_V_store : Cond.code y_V_store c_V_store 2 (some .int) ∈ lw_tbl := by decide +kernel
theorem cb_V_drop : Cond.code y_V_drop c_V_drop 2 (some .int) ∈ lw_tbl := by decide +kernel
theorem cb_V_get : Cond.code y_V_get c_V_get 3 (some .int) ∈ lw_tbl := by decide +kernel
theorem cb_V_at : Cond.code y_V_at c_V_at 2 (some .int) ∈ lw_tbl := by decide +kernel
theorem cb_V_fail : Cond.code y_V_fail c_V_fail 3 (some .int) ∈ lw_tbl := by decide +kernel
theorem cb_V_renew : Cond.code y_V_renew c_V_renew 2 (some .int) ∈ lw_tbl := by decide +kernel
theorem cb_V_repair : Cond.code y_V_repair c_V_repair 4 (some .int) ∈ lw_tbl := by decide +kernel
theorem cb_V_check : Cond.code y_V_check c_V_check 5 (some .int) ∈ lw_tbl := by decide +kernel
theorem cb_V_harm : Cond.code y_V_harm c_V_harm 7 (some .int) ∈ lw_tbl := by decide +kernel
theorem cb_V_stored : Cond.code y_V_stored c_V_stored 4 (some .int) ∈ lw_tbl := by decide +kernel
theorem cb_V_where : Cond.code y_V_where c_V_where 4 (some .int) ∈ lw_tbl := by decide +kernel
theorem cb_V_length : Cond.code y_V_length c_V_length 2 (some .int) ∈ lw_tbl := by decide +kernel
theorem cb_V_room : Cond.code y_V_room c_V_room 2 (some .int) ∈ lw_tbl := by decide +kernel
theorem cb_V_product : Cond.code y_V_product c_V_product 3 (some .int) ∈ lw_tbl := by decide +kernel
theorem cb_V_nearest : Cond.code y_V_nearest c_V_nearest 2 (some .int) ∈ lw_tbl := by decide +kernel
theorem cb_V_isByte : Cond.code y_V_isByte c_V_isByte 1 (some .boolean) ∈ lw_tbl := by decide +kernel
theorem cb_V_isObjectNumber : Cond.code y_V_isObjectNumber c_V_isObjectNumber 1 (some .boolean) ∈ lw_tbl := by decide +kernel
theorem cb_V_isDiskNumber : Cond.code y_V_isDiskNumber c_V_isDiskNumber 1 (some .boolean) ∈ lw_tbl := by decide +kernel
theorem cb_V_placeAt : Cond.code y_V_placeAt c_V_placeAt 2 (some .int) ∈ lw_tbl := by decide +kernel
theorem cb_V_times : Cond.code y_V_times c_V_times 5 (some .int) ∈ lw_tbl := by decide +kernel
theorem cb_V_inverse : Cond.code y_V_inverse c_V_inverse 4 (some .int) ∈ lw_tbl := by decide +kernel
theorem cb_V_requireObject : Cond.code y_V_requireObject c_V_requireObject 2 none ∈ lw_tbl := by decide +kernel
theorem cb_V_requireDisk : Cond.code y_V_requireDisk c_V_requireDisk 2 none ∈ lw_tbl := by decide +kernel
theorem cb_V_requireStoredByte : Cond.code y_V_requireStoredByte c_V_requireStoredByte 4 none ∈ lw_tbl := by decide +kernel
theorem cb_V_placeDraft : Cond.code y_V_placeDraft c_V_placeDraft 5 (some .boolean) ∈ lw_tbl := by decide +kernel
theorem cb_V_takeDataFromDraft : Cond.code y_V_takeDataFromDraft c_V_takeDataFromDraft 4 none ∈ lw_tbl := by decide +kernel
theorem cb_V_copyDataToOutput : Cond.code y_V_copyDataToOutput c_V_copyDataToOutput 4 none ∈ lw_tbl := by decide +kernel
theorem cb_V_placeShard : Cond.code y_V_placeShard c_V_placeShard 6 (some .boolean) ∈ lw_tbl := by decide +kernel
theorem cb_V_roomiestDiskFor : Cond.code y_V_roomiestDiskFor c_V_roomiestDiskFor 6 (some .int) ∈ lw_tbl := by decide +kernel
theorem cb_V_releaseObject : Cond.code y_V_releaseObject c_V_releaseObject 7 (some .int) ∈ lw_tbl := by decide +kernel
theorem cb_V_isGone : Cond.code y_V_isGone c_V_isGone 2 (some .boolean) ∈ lw_tbl := by decide +kernel
theorem cb_V_hasGoneStripe : Cond.code y_V_hasGoneStripe c_V_hasGoneStripe 3 (some .boolean) ∈ lw_tbl := by decide +kernel
theorem cb_V_readStripe : Cond.code y_V_readStripe c_V_readStripe 6 none ∈ lw_tbl := by decide +kernel
theorem cb_V_nextKept : Cond.code y_V_nextKept c_V_nextKept 4 (some .int) ∈ lw_tbl := by decide +kernel
theorem cb_V_giveEquation : Cond.code y_V_giveEquation c_V_giveEquation 6 none ∈ lw_tbl := by decide +kernel
theorem cb_V_repairStripe : Cond.code y_V_repairStripe c_V_repairStripe 4 (some .int) ∈ lw_tbl := by decide +kernel
theorem cb_V_hasWrongShard : Cond.code y_V_hasWrongShard c_V_hasWrongShard 4 (some .boolean) ∈ lw_tbl := by decide +kernel
theorem cb_V_isAsWorkedOut : Cond.code y_V_isAsWorkedOut c_V_isAsWorkedOut 4 (some .boolean) ∈ lw_tbl := by decide +kernel
theorem cb_R_init : Cond.code y_R_init c_R_init 5 none ∈ lw_tbl := by decide +kernel
theorem cb_R_thrown : Cond.code y_R_thrown c_R_thrown 1 (some .int) ∈ lw_tbl := by decide +kernel
theorem cb_R_put : Cond.code y_R_put c_R_put 5 (some .boolean) ∈ lw_tbl := by decide +kernel
theorem cb_R_scrap : Cond.code y_R_scrap c_R_scrap 1 none ∈ lw_tbl := by decide +kernel
theorem cb_R_times : Cond.code y_R_times c_R_times 5 (some .int) ∈ lw_tbl := by decide +kernel
theorem cb_R_inverse : Cond.code y_R_inverse c_R_inverse 2 (some .int) ∈ lw_tbl := by decide +kernel
theorem cb_R_factor : Cond.code y_R_factor c_R_factor 3 (some .int) ∈ lw_tbl := by decide +kernel
theorem cb_R_shards : Cond.code y_R_shards c_R_shards 1 (some .int) ∈ lw_tbl := by decide +kernel
theorem cb_R_stripesOf : Cond.code y_R_stripesOf c_R_stripesOf 2 (some .int) ∈ lw_tbl := by decide +kernel
theorem cb_R_place : Cond.code y_R_place c_R_place 4 (some .int) ∈ lw_tbl := by decide +kernel
theorem cb_R_lost : Cond.code y_R_lost c_R_lost 5 (some .int) ∈ lw_tbl := by decide +kernel
theorem cb_R_worked : Cond.code y_R_worked c_R_worked 5 (some .int) ∈ lw_tbl := by decide +kernel
theorem cb_R_writeRows : Cond.code y_R_writeRows c_R_writeRows 7 none ∈ lw_tbl := by decide +kernel
theorem cb_R_solve : Cond.code y_R_solve c_R_solve 7 none ∈ lw_tbl := by decide +kernel
theorem cb_R_readStripe : Cond.code y_R_readStripe c_R_readStripe 5 none ∈ lw_tbl := by decide +kernel
theorem cb_R_free : Cond.code y_R_free c_R_free 4 (some .int) ∈ lw_tbl := by decide +kernel
theorem cb_R_slotFor : Cond.code y_R_slotFor c_R_slotFor 7 (some .int) ∈ lw_tbl := by decide +kernel
theorem cb_R_lay : Cond.code y_R_lay c_R_lay 6 (some .boolean) ∈ lw_tbl := by decide +kernel
theorem cb_R_clear : Cond.code y_R_clear c_R_clear 4 (some .int) ∈ lw_tbl := by decide +kernel
theorem cb_R_isObject : Cond.code y_R_isObject c_R_isObject 1 (some .boolean) ∈ lw_tbl := by decide +kernel
theorem cb_R_store : Cond.code y_R_store c_R_store 7 (some .int) ∈ lw_tbl := by decide +kernel
theorem cb_R_isThere : Cond.code y_R_isThere c_R_isThere 2 (some .boolean) ∈ lw_tbl := by decide +kernel
theorem cb_R_drop : Cond.code y_R_drop c_R_drop 2 (some .int) ∈ lw_tbl := by decide +kernel
theorem cb_R_get : Cond.code y_R_get c_R_get 5 (some .int) ∈ lw_tbl := by decide +kernel
theorem cb_R_at : Cond.code y_R_at c_R_at 2 (some .int) ∈ lw_tbl := by decide +kernel
theorem cb_R_isDisk : Cond.code y_R_isDisk c_R_isDisk 1 (some .boolean) ∈ lw_tbl := by decide +kernel
theorem cb_R_fail : Cond.code y_R_fail c_R_fail 5 (some .int) ∈ lw_tbl := by decide +kernel
theorem cb_R_renew : Cond.code y_R_renew c_R_renew 4 (some .int) ∈ lw_tbl := by decide +kernel
theorem cb_R_repair : Cond.code y_R_repair c_R_repair 6 (some .int) ∈ lw_tbl := by decide +kernel
theorem cb_R_check : Cond.code y_R_check c_R_check 7 (some .int) ∈ lw_tbl := by decide +kernel
theorem cb_R_refusal : Cond.code y_R_refusal c_R_refusal 4 (some .int) ∈ lw_tbl := by decide +kernel
theorem cb_R_harm : Cond.code y_R_harm c_R_harm 6 (some .int) ∈ lw_tbl := by decide +kernel
theorem cb_R_stored : Cond.code y_R_stored c_R_stored 4 (some .int) ∈ lw_tbl := by decide +kernel
theorem cb_R_where : Cond.code y_R_where c_R_where 5 (some .int) ∈ lw_tbl := by decide +kernel
theorem cb_R_length : Cond.code y_R_length c_R_length 2 (some .int) ∈ lw_tbl := by decide +kernel
theorem cb_R_room : Cond.code y_R_room c_R_room 2 (some .int) ∈ lw_tbl := by decide +kernel
theorem cb_R_product : Cond.code y_R_product c_R_product 3 (some .int) ∈ lw_tbl := by decide +kernel
theorem cb_G_init : Cond.code y_G_init c_G_init 3 none ∈ lw_tbl := by decide +kernel
theorem cb_G_holds : Cond.code y_G_holds c_G_holds 2 (some .boolean) ∈ lw_tbl := by decide +kernel
theorem cb_G_lengthOf : Cond.code y_G_lengthOf c_G_lengthOf 2 (some .int) ∈ lw_tbl := by decide +kernel
theorem cb_G_stripesOf : Cond.code y_G_stripesOf c_G_stripesOf 2 (some .int) ∈ lw_tbl := by decide +kernel
theorem cb_G_enter : Cond.code y_G_enter c_G_enter 3 none ∈ lw_tbl := by decide +kernel
theorem cb_G_strike : Cond.code y_G_strike c_G_strike 2 none ∈ lw_tbl := by decide +kernel
theorem cb_G_rowOf : Cond.code y_G_rowOf c_G_rowOf 3 (some .int) ∈ lw_tbl := by decide +kernel
theorem cb_G_placeOf : Cond.code y_G_placeOf c_G_placeOf 3 (some .int) ∈ lw_tbl := by decide +kernel
theorem cb_G_setPlace : Cond.code y_G_setPlace c_G_setPlace 4 none ∈ lw_tbl := by decide +kernel
theorem cb_G_countLost : Cond.code y_G_countLost c_G_countLost 4 (some .int) ∈ lw_tbl := by decide +kernel
theorem cb_G_isOnDisk : Cond.code y_G_isOnDisk c_G_isOnDisk 4 (some .boolean) ∈ lw_tbl := by decide +kernel
theorem cb_G_loseDisk : Cond.code y_G_loseDisk c_G_loseDisk 3 none ∈ lw_tbl := by decide +kernel
theorem cb_G_isPlaceOnDisk : Cond.code y_G_isPlaceOnDisk c_G_isPlaceOnDisk 2 (some .boolean) ∈ lw_tbl := by decide +kernel
theorem cb_C_init : Cond.code y_C_init c_C_init 5 none ∈ lw_tbl := by decide +kernel
theorem cb_C_factor : Cond.code y_C_factor c_C_factor 3 (some .int) ∈ lw_tbl := by decide +kernel
theorem cb_C_shardByte : Cond.code y_C_shardByte c_C_shardByte 5 (some .int) ∈ lw_tbl := by decide +kernel
theorem cb_C_setEquation : Cond.code y_C_setEquation c_C_setEquation 3 none ∈ lw_tbl := by decide +kernel
theorem cb_C_solve : Cond.code y_C_solve c_C_solve 4 none ∈ lw_tbl := by decide +kernel
theorem cb_C_multiplyLine : Cond.code y_C_multiplyLine c_C_multiplyLine 5 none ∈ lw_tbl := by decide +kernel
theorem cb_C_addLine : Cond.code y_C_addLine c_C_addLine 5 none ∈ lw_tbl := by decide +kernel
theorem cb_D_init : Cond.code y_D_init c_D_init 2 none ∈ lw_tbl := by decide +kernel
theorem cb_D_isAlive : Cond.code y_D_isAlive c_D_isAlive 2 (some .boolean) ∈ lw_tbl := by decide +kernel
theorem cb_D_countAlive : Cond.code y_D_countAlive c_D_countAlive 3 (some .int) ∈ lw_tbl := by decide +kernel
theorem cb_D_freeSlotsOf : Cond.code y_D_freeSlotsOf c_D_freeSlotsOf 2 (some .int) ∈ lw_tbl := by decide +kernel
theorem cb_D_stop : Cond.code y_D_stop c_D_stop 3 none ∈ lw_tbl := by decide +kernel
theorem cb_D_start : Cond.code y_D_start c_D_start 2 none ∈ lw_tbl := by decide +kernel
theorem cb_D_isTaken : Cond.code y_D_isTaken c_D_isTaken 2 (some .boolean) ∈ lw_tbl := by decide +kernel
theorem cb_D_takeSlot : Cond.code y_D_takeSlot c_D_takeSlot 4 (some .int) ∈ lw_tbl := by decide +kernel
theorem cb_D_releaseSlot : Cond.code y_D_releaseSlot c_D_releaseSlot 2 none ∈ lw_tbl := by decide +kernel
theorem cb_D_byteAt : Cond.code y_D_byteAt c_D_byteAt 3 (some .int) ∈ lw_tbl := by decide +kernel
theorem cb_D_setByte : Cond.code y_D_setByte c_D_setByte 4 none ∈ lw_tbl := by decide +kernel
theorem cb_L_cell : Cond.code y_L_cell c_L_cell 2 (some .int) ∈ lw_tbl := by decide +kernel
theorem cb_A_fill : Cond.code y_A_fill c_A_fill 4 none ∈ lw_tbl := by decide +kernel
theorem in_V : Cond.initialized NV ∈ lw_tbl := by decide +kernel
theorem in_C : Cond.initialized NC ∈ lw_tbl := by decide +kernel
theorem in_D : Cond.initialized ND ∈ lw_tbl := by decide +kernel
theorem in_G : Cond.initialized NG ∈ lw_tbl := by decide +kernel
theorem in_R : Cond.initialized NR ∈ lw_tbl := by decide +kernel
theorem in_A : Cond.initialized NA ∈ lw_tbl := by decide +kernel
theorem ml_V_9 : Cond.methodLink NV 9 y_V_nearest ∈ lw_tbl := by decide +kernel
theorem st_V_nearest : Cond.static y_V_nearest ∈ lw_tbl := by decide +kernel
theorem k_V_init_V_nearest : CallS i_V_init i_V_nearest 9 2 := ⟨⟨rfl, rfl, by decide, by decide, rfl, cb_V_nearest, in_V, ⟨by decide, by decide⟩, by decide +kernel⟩, ml_V_9, st_V_nearest⟩
theorem ml_V_15 : Cond.methodLink NV 15 y_C_init ∈ lw_tbl := by decide +kernel
theorem im_C_init : Cond.instanceMethod y_C_init ∈ lw_tbl := by decide +kernel
theorem k_V_init_C_init : CallI i_V_init i_C_init 15 2 := ⟨⟨rfl, rfl, by decide, by decide, rfl, cb_C_init, in_C, ⟨by decide, by decide⟩, by decide +kernel⟩, ml_V_15, rfl, im_C_init, rfl⟩
theorem ml_V_24 : Cond.methodLink NV 24 y_D_init ∈ lw_tbl := by decide +kernel
theorem im_D_init : Cond.instanceMethod y_D_init ∈ lw_tbl := by decide +kernel
theorem k_V_init_D_init : CallI i_V_init i_D_init 24 0 := ⟨⟨rfl, rfl, by decide, by decide, rfl, cb_D_init, in_D, ⟨by decide, by decide⟩, by decide +kernel⟩, ml_V_24, rfl, im_D_init, rfl⟩
theorem ml_V_31 : Cond.methodLink NV 31 y_G_init ∈ lw_tbl := by decide +kernel
theorem im_G_init : Cond.instanceMethod y_G_init ∈ lw_tbl := by decide +kernel
theorem k_V_init_G_init : CallI i_V_init i_G_init 31 2 := ⟨⟨rfl, rfl, by decide, by decide, rfl, cb_G_init, in_G, ⟨by decide, by decide⟩, by decide +kernel⟩, ml_V_31, rfl, im_G_init, rfl⟩
theorem ml_V_50 : Cond.methodLink NV 50 y_V_isObjectNumber ∈ lw_tbl := by decide +kernel
theorem st_V_isObjectNumber : Cond.static y_V_isObjectNumber ∈ lw_tbl := by decide +kernel
theorem k_V_store_V_isObjectNumber : CallS i_V_store i_V_isObjectNumber 50 1 := ⟨⟨rfl, rfl, by decide, by decide, rfl, cb_V_isObjectNumber, in_V, ⟨by decide, by decide⟩, by decide +kernel⟩, ml_V_50, st_V_isObjectNumber⟩
theorem ml_V_54 : Cond.methodLink NV 54 y_G_holds ∈ lw_tbl := by decide +kernel
theorem im_G_holds : Cond.instanceMethod y_G_holds ∈ lw_tbl := by decide +kernel
theorem se_G_holds : Cond.selects NG y_G_holds y_G_holds ∈ lw_tbl := by decide +kernel
theorem k_V_store_G_holds : CallV i_V_store i_G_holds NG 54 1 := ⟨⟨rfl, rfl, by decide, by decide, rfl, cb_G_holds, in_G, ⟨by decide, by decide⟩, by decide +kernel⟩, ml_V_54, im_G_holds, se_G_holds⟩
theorem ml_V_60 : Cond.methodLink NV 60 y_G_enter ∈ lw_tbl := by decide +kernel
theorem im_G_enter : Cond.instanceMethod y_G_enter ∈ lw_tbl := by decide +kernel
theorem se_G_enter : Cond.selects NG y_G_enter y_G_enter ∈ lw_tbl := by decide +kernel
theorem k_V_store_G_enter : CallV i_V_store i_G_enter NG 60 2 := ⟨⟨rfl, rfl, by decide, by decide, rfl, cb_G_enter, in_G, ⟨by decide, by decide⟩, by decide +kernel⟩, ml_V_60, im_G_enter, se_G_enter⟩
theorem ml_V_63 : Cond.methodLink NV 63 y_V_placeDraft ∈ lw_tbl := by decide +kernel
theorem im_V_placeDraft : Cond.instanceMethod y_V_placeDraft ∈ lw_tbl := by decide +kernel
theorem se_V_placeDraft : Cond.selects NV y_V_placeDraft y_V_placeDraft ∈ lw_tbl := by decide +kernel
theorem k_V_store_V_placeDraft : CallV i_V_store i_V_placeDraft NV 63 1 := ⟨⟨rfl, rfl, by decide, by decide, rfl, cb_V_placeDraft, in_V, ⟨by decide, by decide⟩, by decide +kernel⟩, ml_V_63, im_V_placeDraft, se_V_placeDraft⟩
theorem ml_V_66 : Cond.methodLink NV 66 y_V_releaseObject ∈ lw_tbl := by decide +kernel
theorem im_V_releaseObject : Cond.instanceMethod y_V_releaseObject ∈ lw_tbl := by decide +kernel
theorem se_V_releaseObject : Cond.selects NV y_V_releaseObject y_V_releaseObject ∈ lw_tbl := by decide +kernel
theorem k_V_store_V_releaseObject : CallV i_V_store i_V_releaseObject NV 66 1 := ⟨⟨rfl, rfl, by decide, by decide, rfl, cb_V_releaseObject, in_V, ⟨by decide, by decide⟩, by decide +kernel⟩, ml_V_66, im_V_releaseObject, se_V_releaseObject⟩
theorem ml_V_73 : Cond.methodLink NV 73 y_G_stripesOf ∈ lw_tbl := by decide +kernel
theorem im_G_stripesOf : Cond.instanceMethod y_G_stripesOf ∈ lw_tbl := by decide +kernel
theorem se_G_stripesOf : Cond.selects NG y_G_stripesOf y_G_stripesOf ∈ lw_tbl := by decide +kernel
theorem k_V_store_G_stripesOf : CallV i_V_store i_G_stripesOf NG 73 1 := ⟨⟨rfl, rfl, by decide, by decide, rfl, cb_G_stripesOf, in_G, ⟨by decide, by decide⟩, by decide +kernel⟩, ml_V_73, im_G_stripesOf, se_G_stripesOf⟩
theorem ml_V_76 : Cond.methodLink NV 76 y_V_requireObject ∈ lw_tbl := by decide +kernel
theorem im_V_requireObject : Cond.instanceMethod y_V_requireObject ∈ lw_tbl := by decide +kernel
theorem se_V_requireObject : Cond.selects NV y_V_requireObject y_V_requireObject ∈ lw_tbl := by decide +kernel
theorem k_V_drop_V_requireObject : CallV i_V_drop i_V_requireObject NV 76 1 := ⟨⟨rfl, rfl, by decide, by decide, rfl, cb_V_requireObject, in_V, ⟨by decide, by decide⟩, by decide +kernel⟩, ml_V_76, im_V_requireObject, se_V_requireObject⟩
theorem k_V_drop_V_releaseObject : CallV i_V_drop i_V_releaseObject NV 66 1 := ⟨⟨rfl, rfl, by decide, by decide, rfl, cb_V_releaseObject, in_V, ⟨by decide, by decide⟩, by decide +kernel⟩, ml_V_66, im_V_releaseObject, se_V_releaseObject⟩
theorem k_V_get_V_requireObject : CallV i_V_get i_V_requireObject NV 76 1 := ⟨⟨rfl, rfl, by decide, by decide, rfl, cb_V_requireObject, in_V, ⟨by decide, by decide⟩, by decide +kernel⟩, ml_V_76, im_V_requireObject, se_V_requireObject⟩
theorem ml_V_80 : Cond.methodLink NV 80 y_V_hasGoneStripe ∈ lw_tbl := by decide +kernel
theorem im_V_hasGoneStripe : Cond.instanceMethod y_V_hasGoneStripe ∈ lw_tbl := by decide +kernel
theorem se_V_hasGoneStripe : Cond.selects NV y_V_hasGoneStripe y_V_hasGoneStripe ∈ lw_tbl := by decide +kernel
theorem k_V_get_V_hasGoneStripe : CallV i_V_get i_V_hasGoneStripe NV 80 1 := ⟨⟨rfl, rfl, by decide, by decide, rfl, cb_V_hasGoneStripe, in_V, ⟨by decide, by decide⟩, by decide +kernel⟩, ml_V_80, im_V_hasGoneStripe, se_V_hasGoneStripe⟩
theorem k_V_get_G_stripesOf : CallV i_V_get i_G_stripesOf NG 73 1 := ⟨⟨rfl, rfl, by decide, by decide, rfl, cb_G_stripesOf, in_G, ⟨by decide, by decide⟩, by decide +kernel⟩, ml_V_73, im_G_stripesOf, se_G_stripesOf⟩
theorem ml_V_83 : Cond.methodLink NV 83 y_G_rowOf ∈ lw_tbl := by decide +kernel
theorem im_G_rowOf : Cond.instanceMethod y_G_rowOf ∈ lw_tbl := by decide +kernel
theorem se_G_rowOf : Cond.selects NG y_G_rowOf y_G_rowOf ∈ lw_tbl := by decide +kernel
theorem k_V_get_G_rowOf : CallV i_V_get i_G_rowOf NG 83 2 := ⟨⟨rfl, rfl, by decide, by decide, rfl, cb_G_rowOf, in_G, ⟨by decide, by decide⟩, by decide +kernel⟩, ml_V_83, im_G_rowOf, se_G_rowOf⟩
theorem ml_V_86 : Cond.methodLink NV 86 y_V_readStripe ∈ lw_tbl := by decide +kernel
theorem im_V_readStripe : Cond.instanceMethod y_V_readStripe ∈ lw_tbl := by decide +kernel
theorem se_V_readStripe : Cond.selects NV y_V_readStripe y_V_readStripe ∈ lw_tbl := by decide +kernel
theorem k_V_get_V_readStripe : CallV i_V_get i_V_readStripe NV 86 1 := ⟨⟨rfl, rfl, by decide, by decide, rfl, cb_V_readStripe, in_V, ⟨by decide, by decide⟩, by decide +kernel⟩, ml_V_86, im_V_readStripe, se_V_readStripe⟩
theorem ml_V_89 : Cond.methodLink NV 89 y_V_copyDataToOutput ∈ lw_tbl := by decide +kernel
theorem im_V_copyDataToOutput : Cond.instanceMethod y_V_copyDataToOutput ∈ lw_tbl := by decide +kernel
theorem se_V_copyDataToOutput : Cond.selects NV y_V_copyDataToOutput y_V_copyDataToOutput ∈ lw_tbl := by decide +kernel
theorem k_V_get_V_copyDataToOutput : CallV i_V_get i_V_copyDataToOutput NV 89 1 := ⟨⟨rfl, rfl, by decide, by decide, rfl, cb_V_copyDataToOutput, in_V, ⟨by decide, by decide⟩, by decide +kernel⟩, ml_V_89, im_V_copyDataToOutput, se_V_copyDataToOutput⟩
theorem ml_V_92 : Cond.methodLink NV 92 y_G_lengthOf ∈ lw_tbl := by decide +kernel
theorem im_G_lengthOf : Cond.instanceMethod y_G_lengthOf ∈ lw_tbl := by decide +kernel
theorem se_G_lengthOf : Cond.selects NG y_G_lengthOf y_G_lengthOf ∈ lw_tbl := by decide +kernel
theorem k_V_get_G_lengthOf : CallV i_V_get i_G_lengthOf NG 92 1 := ⟨⟨rfl, rfl, by decide, by decide, rfl, cb_G_lengthOf, in_G, ⟨by decide, by decide⟩, by decide +kernel⟩, ml_V_92, im_G_lengthOf, se_G_lengthOf⟩
theorem ml_V_98 : Cond.methodLink NV 98 y_V_requireDisk ∈ lw_tbl := by decide +kernel
theorem im_V_requireDisk : Cond.instanceMethod y_V_requireDisk ∈ lw_tbl := by decide +kernel
theorem se_V_requireDisk : Cond.selects NV y_V_requireDisk y_V_requireDisk ∈ lw_tbl := by decide +kernel
theorem k_V_fail_V_requireDisk : CallV i_V_fail i_V_requireDisk NV 98 1 := ⟨⟨rfl, rfl, by decide, by decide, rfl, cb_V_requireDisk, in_V, ⟨by decide, by decide⟩, by decide +kernel⟩, ml_V_98, im_V_requireDisk, se_V_requireDisk⟩
theorem ml_V_101 : Cond.methodLink NV 101 y_D_isAlive ∈ lw_tbl := by decide +kernel
theorem im_D_isAlive : Cond.instanceMethod y_D_isAlive ∈ lw_tbl := by decide +kernel
theorem se_D_isAlive : Cond.selects ND y_D_isAlive y_D_isAlive ∈ lw_tbl := by decide +kernel
theorem k_V_fail_D_isAlive : CallV i_V_fail i_D_isAlive ND 101 1 := ⟨⟨rfl, rfl, by decide, by decide, rfl, cb_D_isAlive, in_D, ⟨by decide, by decide⟩, by decide +kernel⟩, ml_V_101, im_D_isAlive, se_D_isAlive⟩
theorem ml_V_104 : Cond.methodLink NV 104 y_D_freeSlotsOf ∈ lw_tbl := by decide +kernel
theorem im_D_freeSlotsOf : Cond.instanceMethod y_D_freeSlotsOf ∈ lw_tbl := by decide +kernel
theorem se_D_freeSlotsOf : Cond.selects ND y_D_freeSlotsOf y_D_freeSlotsOf ∈ lw_tbl := by decide +kernel
theorem k_V_fail_D_freeSlotsOf : CallV i_V_fail i_D_freeSlotsOf ND 104 1 := ⟨⟨rfl, rfl, by decide, by decide, rfl, cb_D_freeSlotsOf, in_D, ⟨by decide, by decide⟩, by decide +kernel⟩, ml_V_104, im_D_freeSlotsOf, se_D_freeSlotsOf⟩
theorem ml_V_107 : Cond.methodLink NV 107 y_D_stop ∈ lw_tbl := by decide +kernel
theorem im_D_stop : Cond.instanceMethod y_D_stop ∈ lw_tbl := by decide +kernel
theorem se_D_stop : Cond.selects ND y_D_stop y_D_stop ∈ lw_tbl := by decide +kernel
theorem k_V_fail_D_stop : CallV i_V_fail i_D_stop ND 107 1 := ⟨⟨rfl, rfl, by decide, by decide, rfl, cb_D_stop, in_D, ⟨by decide, by decide⟩, by decide +kernel⟩, ml_V_107, im_D_stop, se_D_stop⟩
theorem ml_V_110 : Cond.methodLink NV 110 y_G_loseDisk ∈ lw_tbl := by decide +kernel
theorem im_G_loseDisk : Cond.instanceMethod y_G_loseDisk ∈ lw_tbl := by decide +kernel
theorem se_G_loseDisk : Cond.selects NG y_G_loseDisk y_G_loseDisk ∈ lw_tbl := by decide +kernel
theorem k_V_fail_G_loseDisk : CallV i_V_fail i_G_loseDisk NG 110 1 := ⟨⟨rfl, rfl, by decide, by decide, rfl, cb_G_loseDisk, in_G, ⟨by decide, by decide⟩, by decide +kernel⟩, ml_V_110, im_G_loseDisk, se_G_loseDisk⟩
theorem k_V_renew_V_requireDisk : CallV i_V_renew i_V_requireDisk NV 98 1 := ⟨⟨rfl, rfl, by decide, by decide, rfl, cb_V_requireDisk, in_V, ⟨by decide, by decide⟩, by decide +kernel⟩, ml_V_98, im_V_requireDisk, se_V_requireDisk⟩
theorem k_V_renew_D_isAlive : CallV i_V_renew i_D_isAlive ND 101 1 := ⟨⟨rfl, rfl, by decide, by decide, rfl, cb_D_isAlive, in_D, ⟨by decide, by decide⟩, by decide +kernel⟩, ml_V_101, im_D_isAlive, se_D_isAlive⟩
theorem ml_V_113 : Cond.methodLink NV 113 y_D_start ∈ lw_tbl := by decide +kernel
theorem im_D_start : Cond.instanceMethod y_D_start ∈ lw_tbl := by decide +kernel
theorem se_D_start : Cond.selects ND y_D_start y_D_start ∈ lw_tbl := by decide +kernel
theorem k_V_renew_D_start : CallV i_V_renew i_D_start ND 113 1 := ⟨⟨rfl, rfl, by decide, by decide, rfl, cb_D_start, in_D, ⟨by decide, by decide⟩, by decide +kernel⟩, ml_V_113, im_D_start, se_D_start⟩
theorem ml_V_116 : Cond.methodLink NV 116 y_D_countAlive ∈ lw_tbl := by decide +kernel
theorem im_D_countAlive : Cond.instanceMethod y_D_countAlive ∈ lw_tbl := by decide +kernel
theorem se_D_countAlive : Cond.selects ND y_D_countAlive y_D_countAlive ∈ lw_tbl := by decide +kernel
theorem k_V_renew_D_countAlive : CallV i_V_renew i_D_countAlive ND 116 0 := ⟨⟨rfl, rfl, by decide, by decide, rfl, cb_D_countAlive, in_D, ⟨by decide, by decide⟩, by decide +kernel⟩, ml_V_116, im_D_countAlive, se_D_countAlive⟩
theorem k_V_repair_G_stripesOf : CallV i_V_repair i_G_stripesOf NG 73 1 := ⟨⟨rfl, rfl, by decide, by decide, rfl, cb_G_stripesOf, in_G, ⟨by decide, by decide⟩, by decide +kernel⟩, ml_V_73, im_G_stripesOf, se_G_stripesOf⟩
theorem k_V_repair_G_rowOf : CallV i_V_repair i_G_rowOf NG 83 2 := ⟨⟨rfl, rfl, by decide, by decide, rfl, cb_G_rowOf, in_G, ⟨by decide, by decide⟩, by decide +kernel⟩, ml_V_83, im_G_rowOf, se_G_rowOf⟩
theorem ml_V_120 : Cond.methodLink NV 120 y_V_repairStripe ∈ lw_tbl := by decide +kernel
theorem im_V_repairStripe : Cond.instanceMethod y_V_repairStripe ∈ lw_tbl := by decide +kernel
theorem se_V_repairStripe : Cond.selects NV y_V_repairStripe y_V_repairStripe ∈ lw_tbl := by decide +kernel
theorem k_V_repair_V_repairStripe : CallV i_V_repair i_V_repairStripe NV 120 1 := ⟨⟨rfl, rfl, by decide, by decide, rfl, cb_V_repairStripe, in_V, ⟨by decide, by decide⟩, by decide +kernel⟩, ml_V_120, im_V_repairStripe, se_V_repairStripe⟩
theorem k_V_check_V_requireObject : CallV i_V_check i_V_requireObject NV 76 1 := ⟨⟨rfl, rfl, by decide, by decide, rfl, cb_V_requireObject, in_V, ⟨by decide, by decide⟩, by decide +kernel⟩, ml_V_76, im_V_requireObject, se_V_requireObject⟩
theorem k_V_check_G_stripesOf : CallV i_V_check i_G_stripesOf NG 73 1 := ⟨⟨rfl, rfl, by decide, by decide, rfl, cb_G_stripesOf, in_G, ⟨by decide, by decide⟩, by decide +kernel⟩, ml_V_73, im_G_stripesOf, se_G_stripesOf⟩
theorem k_V_check_G_rowOf : CallV i_V_check i_G_rowOf NG 83 2 := ⟨⟨rfl, rfl, by decide, by decide, rfl, cb_G_rowOf, in_G, ⟨by decide, by decide⟩, by decide +kernel⟩, ml_V_83, im_G_rowOf, se_G_rowOf⟩
theorem ml_V_123 : Cond.methodLink NV 123 y_V_isGone ∈ lw_tbl := by decide +kernel
theorem im_V_isGone : Cond.instanceMethod y_V_isGone ∈ lw_tbl := by decide +kernel
theorem se_V_isGone : Cond.selects NV y_V_isGone y_V_isGone ∈ lw_tbl := by decide +kernel
theorem k_V_check_V_isGone : CallV i_V_check i_V_isGone NV 123 1 := ⟨⟨rfl, rfl, by decide, by decide, rfl, cb_V_isGone, in_V, ⟨by decide, by decide⟩, by decide +kernel⟩, ml_V_123, im_V_isGone, se_V_isGone⟩
theorem ml_V_126 : Cond.methodLink NV 126 y_V_hasWrongShard ∈ lw_tbl := by decide +kernel
theorem im_V_hasWrongShard : Cond.instanceMethod y_V_hasWrongShard ∈ lw_tbl := by decide +kernel
theorem se_V_hasWrongShard : Cond.selects NV y_V_hasWrongShard y_V_hasWrongShard ∈ lw_tbl := by decide +kernel
theorem k_V_check_V_hasWrongShard : CallV i_V_check i_V_hasWrongShard NV 126 1 := ⟨⟨rfl, rfl, by decide, by decide, rfl, cb_V_hasWrongShard, in_V, ⟨by decide, by decide⟩, by decide +kernel⟩, ml_V_126, im_V_hasWrongShard, se_V_hasWrongShard⟩
theorem ml_V_129 : Cond.methodLink NV 129 y_V_requireStoredByte ∈ lw_tbl := by decide +kernel
theorem im_V_requireStoredByte : Cond.instanceMethod y_V_requireStoredByte ∈ lw_tbl := by decide +kernel
theorem se_V_requireStoredByte : Cond.selects NV y_V_requireStoredByte y_V_requireStoredByte ∈ lw_tbl := by decide +kernel
theorem k_V_harm_V_requireStoredByte : CallV i_V_harm i_V_requireStoredByte NV 129 3 := ⟨⟨rfl, rfl, by decide, by decide, rfl, cb_V_requireStoredByte, in_V, ⟨by decide, by decide⟩, by decide +kernel⟩, ml_V_129, im_V_requireStoredByte, se_V_requireStoredByte⟩
theorem ml_V_133 : Cond.methodLink NV 133 y_V_placeAt ∈ lw_tbl := by decide +kernel
theorem st_V_placeAt : Cond.static y_V_placeAt ∈ lw_tbl := by decide +kernel
theorem k_V_harm_V_placeAt : CallS i_V_harm i_V_placeAt 133 2 := ⟨⟨rfl, rfl, by decide, by decide, rfl, cb_V_placeAt, in_V, ⟨by decide, by decide⟩, by decide +kernel⟩, ml_V_133, st_V_placeAt⟩
theorem ml_V_136 : Cond.methodLink NV 136 y_D_byteAt ∈ lw_tbl := by decide +kernel
theorem im_D_byteAt : Cond.instanceMethod y_D_byteAt ∈ lw_tbl := by decide +kernel
theorem se_D_byteAt : Cond.selects ND y_D_byteAt y_D_byteAt ∈ lw_tbl := by decide +kernel
theorem k_V_harm_D_byteAt : CallV i_V_harm i_D_byteAt ND 136 2 := ⟨⟨rfl, rfl, by decide, by decide, rfl, cb_D_byteAt, in_D, ⟨by decide, by decide⟩, by decide +kernel⟩, ml_V_136, im_D_byteAt, se_D_byteAt⟩
theorem ml_V_139 : Cond.methodLink NV 139 y_D_setByte ∈ lw_tbl := by decide +kernel
theorem im_D_setByte : Cond.instanceMethod y_D_setByte ∈ lw_tbl := by decide +kernel
theorem se_D_setByte : Cond.selects ND y_D_setByte y_D_setByte ∈ lw_tbl := by decide +kernel
theorem k_V_harm_D_setByte : CallV i_V_harm i_D_setByte ND 139 3 := ⟨⟨rfl, rfl, by decide, by decide, rfl, cb_D_setByte, in_D, ⟨by decide, by decide⟩, by decide +kernel⟩, ml_V_139, im_D_setByte, se_D_setByte⟩
theorem k_V_stored_V_requireStoredByte : CallV i_V_stored i_V_requireStoredByte NV 129 3 := ⟨⟨rfl, rfl, by decide, by decide, rfl, cb_V_requireStoredByte, in_V, ⟨by decide, by decide⟩, by decide +kernel⟩, ml_V_129, im_V_requireStoredByte, se_V_requireStoredByte⟩
theorem k_V_stored_V_placeAt : CallS i_V_stored i_V_placeAt 133 2 := ⟨⟨rfl, rfl, by decide, by decide, rfl, cb_V_placeAt, in_V, ⟨by decide, by decide⟩, by decide +kernel⟩, ml_V_133, st_V_placeAt⟩
theorem k_V_stored_D_byteAt : CallV i_V_stored i_D_byteAt ND 136 2 := ⟨⟨rfl, rfl, by decide, by decide, rfl, cb_D_byteAt, in_D, ⟨by decide, by decide⟩, by decide +kernel⟩, ml_V_136, im_D_byteAt, se_D_byteAt⟩
theorem k_V_where_V_requireObject : CallV i_V_where i_V_requireObject NV 76 1 := ⟨⟨rfl, rfl, by decide, by decide, rfl, cb_V_requireObject, in_V, ⟨by decide, by decide⟩, by decide +kernel⟩, ml_V_76, im_V_requireObject, se_V_requireObject⟩
theorem k_V_where_G_stripesOf : CallV i_V_where i_G_stripesOf NG 73 1 := ⟨⟨rfl, rfl, by decide, by decide, rfl, cb_G_stripesOf, in_G, ⟨by decide, by decide⟩, by decide +kernel⟩, ml_V_73, im_G_stripesOf, se_G_stripesOf⟩
theorem k_V_where_G_rowOf : CallV i_V_where i_G_rowOf NG 83 2 := ⟨⟨rfl, rfl, by decide, by decide, rfl, cb_G_rowOf, in_G, ⟨by decide, by decide⟩, by decide +kernel⟩, ml_V_83, im_G_rowOf, se_G_rowOf⟩
theorem ml_V_145 : Cond.methodLink NV 145 y_G_placeOf ∈ lw_tbl := by decide +kernel
theorem im_G_placeOf : Cond.instanceMethod y_G_placeOf ∈ lw_tbl := by decide +kernel
theorem se_G_placeOf : Cond.selects NG y_G_placeOf y_G_placeOf ∈ lw_tbl := by decide +kernel
theorem k_V_where_G_placeOf : CallV i_V_where i_G_placeOf NG 145 2 := ⟨⟨rfl, rfl, by decide, by decide, rfl, cb_G_placeOf, in_G, ⟨by decide, by decide⟩, by decide +kernel⟩, ml_V_145, im_G_placeOf, se_G_placeOf⟩
theorem k_V_length_V_isObjectNumber : CallS i_V_length i_V_isObjectNumber 50 1 := ⟨⟨rfl, rfl, by decide, by decide, rfl, cb_V_isObjectNumber, in_V, ⟨by decide, by decide⟩, by decide +kernel⟩, ml_V_50, st_V_isObjectNumber⟩
theorem k_V_length_G_holds : CallV i_V_length i_G_holds NG 54 1 := ⟨⟨rfl, rfl, by decide, by decide, rfl, cb_G_holds, in_G, ⟨by decide, by decide⟩, by decide +kernel⟩, ml_V_54, im_G_holds, se_G_holds⟩
theorem k_V_length_G_lengthOf : CallV i_V_length i_G_lengthOf NG 92 1 := ⟨⟨rfl, rfl, by decide, by decide, rfl, cb_G_lengthOf, in_G, ⟨by decide, by decide⟩, by decide +kernel⟩, ml_V_92, im_G_lengthOf, se_G_lengthOf⟩
theorem ml_V_148 : Cond.methodLink NV 148 y_V_isDiskNumber ∈ lw_tbl := by decide +kernel
theorem st_V_isDiskNumber : Cond.static y_V_isDiskNumber ∈ lw_tbl := by decide +kernel
theorem k_V_room_V_isDiskNumber : CallS i_V_room i_V_isDiskNumber 148 1 := ⟨⟨rfl, rfl, by decide, by decide, rfl, cb_V_isDiskNumber, in_V, ⟨by decide, by decide⟩, by decide +kernel⟩, ml_V_148, st_V_isDiskNumber⟩
theorem k_V_room_D_isAlive : CallV i_V_room i_D_isAlive ND 101 1 := ⟨⟨rfl, rfl, by decide, by decide, rfl, cb_D_isAlive, in_D, ⟨by decide, by decide⟩, by decide +kernel⟩, ml_V_101, im_D_isAlive, se_D_isAlive⟩
theorem k_V_room_D_freeSlotsOf : CallV i_V_room i_D_freeSlotsOf ND 104 1 := ⟨⟨rfl, rfl, by decide, by decide, rfl, cb_D_freeSlotsOf, in_D, ⟨by decide, by decide⟩, by decide +kernel⟩, ml_V_104, im_D_freeSlotsOf, se_D_freeSlotsOf⟩
theorem ml_V_151 : Cond.methodLink NV 151 y_V_isByte ∈ lw_tbl := by decide +kernel
theorem st_V_isByte : Cond.static y_V_isByte ∈ lw_tbl := by decide +kernel
theorem k_V_product_V_isByte : CallS i_V_product i_V_isByte 151 1 := ⟨⟨rfl, rfl, by decide, by decide, rfl, cb_V_isByte, in_V, ⟨by decide, by decide⟩, by decide +kernel⟩, ml_V_151, st_V_isByte⟩
theorem ml_V_154 : Cond.methodLink NV 154 y_V_times ∈ lw_tbl := by decide +kernel
theorem st_V_times : Cond.static y_V_times ∈ lw_tbl := by decide +kernel
theorem k_V_product_V_times : CallS i_V_product i_V_times 154 2 := ⟨⟨rfl, rfl, by decide, by decide, rfl, cb_V_times, in_V, ⟨by decide, by decide⟩, by decide +kernel⟩, ml_V_154, st_V_times⟩
theorem ml_V_160 : Cond.methodLink NV 160 y_V_inverse ∈ lw_tbl := by decide +kernel
theorem st_V_inverse : Cond.static y_V_inverse ∈ lw_tbl := by decide +kernel
theorem k_V_product_V_inverse : CallS i_V_product i_V_inverse 160 1 := ⟨⟨rfl, rfl, by decide, by decide, rfl, cb_V_inverse, in_V, ⟨by decide, by decide⟩, by decide +kernel⟩, ml_V_160, st_V_inverse⟩
theorem k_V_inverse_V_times : CallS i_V_inverse i_V_times 154 2 := ⟨⟨rfl, rfl, by decide, by decide, rfl, cb_V_times, in_V, ⟨by decide, by decide⟩, by decide +kernel⟩, ml_V_154, st_V_times⟩
theorem k_V_requireObject_V_isObjectNumber : CallS i_V_requireObject i_V_isObjectNumber 50 1 := ⟨⟨rfl, rfl, by decide, by decide, rfl, cb_V_isObjectNumber, in_V, ⟨by decide, by decide⟩, by decide +kernel⟩, ml_V_50, st_V_isObjectNumber⟩
theorem k_V_requireObject_G_holds : CallV i_V_requireObject i_G_holds NG 54 1 := ⟨⟨rfl, rfl, by decide, by decide, rfl, cb_G_holds, in_G, ⟨by decide, by decide⟩, by decide +kernel⟩, ml_V_54, im_G_holds, se_G_holds⟩
theorem k_V_requireDisk_V_isDiskNumber : CallS i_V_requireDisk i_V_isDiskNumber 148 1 := ⟨⟨rfl, rfl, by decide, by decide, rfl, cb_V_isDiskNumber, in_V, ⟨by decide, by decide⟩, by decide +kernel⟩, ml_V_148, st_V_isDiskNumber⟩
theorem k_V_requireStoredByte_V_requireDisk : CallV i_V_requireStoredByte i_V_requireDisk NV 98 1 := ⟨⟨rfl, rfl, by decide, by decide, rfl, cb_V_requireDisk, in_V, ⟨by decide, by decide⟩, by decide +kernel⟩, ml_V_98, im_V_requireDisk, se_V_requireDisk⟩
theorem k_V_requireStoredByte_V_placeAt : CallS i_V_requireStoredByte i_V_placeAt 133 2 := ⟨⟨rfl, rfl, by decide, by decide, rfl, cb_V_placeAt, in_V, ⟨by decide, by decide⟩, by decide +kernel⟩, ml_V_133, st_V_placeAt⟩
theorem ml_V_174 : Cond.methodLink NV 174 y_D_isTaken ∈ lw_tbl := by decide +kernel
theorem im_D_isTaken : Cond.instanceMethod y_D_isTaken ∈ lw_tbl := by decide +kernel
theorem se_D_isTaken : Cond.selects ND y_D_isTaken y_D_isTaken ∈ lw_tbl := by decide +kernel
theorem k_V_requireStoredByte_D_isTaken : CallV i_V_requireStoredByte i_D_isTaken ND 174 1 := ⟨⟨rfl, rfl, by decide, by decide, rfl, cb_D_isTaken, in_D, ⟨by decide, by decide⟩, by decide +kernel⟩, ml_V_174, im_D_isTaken, se_D_isTaken⟩
theorem k_V_placeDraft_G_stripesOf : CallV i_V_placeDraft i_G_stripesOf NG 73 1 := ⟨⟨rfl, rfl, by decide, by decide, rfl, cb_G_stripesOf, in_G, ⟨by decide, by decide⟩, by decide +kernel⟩, ml_V_73, im_G_stripesOf, se_G_stripesOf⟩
theorem ml_V_177 : Cond.methodLink NV 177 y_V_takeDataFromDraft ∈ lw_tbl := by decide +kernel
theorem im_V_takeDataFromDraft : Cond.instanceMethod y_V_takeDataFromDraft ∈ lw_tbl := by decide +kernel
theorem se_V_takeDataFromDraft : Cond.selects NV y_V_takeDataFromDraft y_V_takeDataFromDraft ∈ lw_tbl := by decide +kernel
theorem k_V_placeDraft_V_takeDataFromDraft : CallV i_V_placeDraft i_V_takeDataFromDraft NV 177 1 := ⟨⟨rfl, rfl, by decide, by decide, rfl, cb_V_takeDataFromDraft, in_V, ⟨by decide, by decide⟩, by decide +kernel⟩, ml_V_177, im_V_takeDataFromDraft, se_V_takeDataFromDraft⟩
theorem k_V_placeDraft_G_rowOf : CallV i_V_placeDraft i_G_rowOf NG 83 2 := ⟨⟨rfl, rfl, by decide, by decide, rfl, cb_G_rowOf, in_G, ⟨by decide, by decide⟩, by decide +kernel⟩, ml_V_83, im_G_rowOf, se_G_rowOf⟩
theorem ml_V_180 : Cond.methodLink NV 180 y_V_placeShard ∈ lw_tbl := by decide +kernel
theorem im_V_placeShard : Cond.instanceMethod y_V_placeShard ∈ lw_tbl := by decide +kernel
theorem se_V_placeShard : Cond.selects NV y_V_placeShard y_V_placeShard ∈ lw_tbl := by decide +kernel
theorem k_V_placeDraft_V_placeShard : CallV i_V_placeDraft i_V_placeShard NV 180 2 := ⟨⟨rfl, rfl, by decide, by decide, rfl, cb_V_placeShard, in_V, ⟨by decide, by decide⟩, by decide +kernel⟩, ml_V_180, im_V_placeShard, se_V_placeShard⟩
theorem ml_V_190 : Cond.methodLink NV 190 y_V_roomiestDiskFor ∈ lw_tbl := by decide +kernel
theorem im_V_roomiestDiskFor : Cond.instanceMethod y_V_roomiestDiskFor ∈ lw_tbl := by decide +kernel
theorem se_V_roomiestDiskFor : Cond.selects NV y_V_roomiestDiskFor y_V_roomiestDiskFor ∈ lw_tbl := by decide +kernel
theorem k_V_placeShard_V_roomiestDiskFor : CallV i_V_placeShard i_V_roomiestDiskFor NV 190 1 := ⟨⟨rfl, rfl, by decide, by decide, rfl, cb_V_roomiestDiskFor, in_V, ⟨by decide, by decide⟩, by decide +kernel⟩, ml_V_190, im_V_roomiestDiskFor, se_V_roomiestDiskFor⟩
theorem ml_V_193 : Cond.methodLink NV 193 y_D_takeSlot ∈ lw_tbl := by decide +kernel
theorem im_D_takeSlot : Cond.instanceMethod y_D_takeSlot ∈ lw_tbl := by decide +kernel
theorem se_D_takeSlot : Cond.selects ND y_D_takeSlot y_D_takeSlot ∈ lw_tbl := by decide +kernel
theorem k_V_placeShard_D_takeSlot : CallV i_V_placeShard i_D_takeSlot ND 193 1 := ⟨⟨rfl, rfl, by decide, by decide, rfl, cb_D_takeSlot, in_D, ⟨by decide, by decide⟩, by decide +kernel⟩, ml_V_193, im_D_takeSlot, se_D_takeSlot⟩
theorem ml_V_196 : Cond.methodLink NV 196 y_C_shardByte ∈ lw_tbl := by decide +kernel
theorem im_C_shardByte : Cond.instanceMethod y_C_shardByte ∈ lw_tbl := by decide +kernel
theorem se_C_shardByte : Cond.selects NC y_C_shardByte y_C_shardByte ∈ lw_tbl := by decide +kernel
theorem k_V_placeShard_C_shardByte : CallV i_V_placeShard i_C_shardByte NC 196 2 := ⟨⟨rfl, rfl, by decide, by decide, rfl, cb_C_shardByte, in_C, ⟨by decide, by decide⟩, by decide +kernel⟩, ml_V_196, im_C_shardByte, se_C_shardByte⟩
theorem k_V_placeShard_D_setByte : CallV i_V_placeShard i_D_setByte ND 139 3 := ⟨⟨rfl, rfl, by decide, by decide, rfl, cb_D_setByte, in_D, ⟨by decide, by decide⟩, by decide +kernel⟩, ml_V_139, im_D_setByte, se_D_setByte⟩
theorem ml_V_199 : Cond.methodLink NV 199 y_G_setPlace ∈ lw_tbl := by decide +kernel
theorem im_G_setPlace : Cond.instanceMethod y_G_setPlace ∈ lw_tbl := by decide +kernel
theorem se_G_setPlace : Cond.selects NG y_G_setPlace y_G_setPlace ∈ lw_tbl := by decide +kernel
theorem k_V_placeShard_G_setPlace : CallV i_V_placeShard i_G_setPlace NG 199 3 := ⟨⟨rfl, rfl, by decide, by decide, rfl, cb_G_setPlace, in_G, ⟨by decide, by decide⟩, by decide +kernel⟩, ml_V_199, im_G_setPlace, se_G_setPlace⟩
theorem k_V_roomiestDiskFor_D_freeSlotsOf : CallV i_V_roomiestDiskFor i_D_freeSlotsOf ND 104 1 := ⟨⟨rfl, rfl, by decide, by decide, rfl, cb_D_freeSlotsOf, in_D, ⟨by decide, by decide⟩, by decide +kernel⟩, ml_V_104, im_D_freeSlotsOf, se_D_freeSlotsOf⟩
theorem k_V_roomiestDiskFor_D_isAlive : CallV i_V_roomiestDiskFor i_D_isAlive ND 101 1 := ⟨⟨rfl, rfl, by decide, by decide, rfl, cb_D_isAlive, in_D, ⟨by decide, by decide⟩, by decide +kernel⟩, ml_V_101, im_D_isAlive, se_D_isAlive⟩
theorem ml_V_202 : Cond.methodLink NV 202 y_G_isOnDisk ∈ lw_tbl := by decide +kernel
theorem im_G_isOnDisk : Cond.instanceMethod y_G_isOnDisk ∈ lw_tbl := by decide +kernel
theorem se_G_isOnDisk : Cond.selects NG y_G_isOnDisk y_G_isOnDisk ∈ lw_tbl := by decide +kernel
theorem k_V_roomiestDiskFor_G_isOnDisk : CallV i_V_roomiestDiskFor i_G_isOnDisk NG 202 2 := ⟨⟨rfl, rfl, by decide, by decide, rfl, cb_G_isOnDisk, in_G, ⟨by decide, by decide⟩, by decide +kernel⟩, ml_V_202, im_G_isOnDisk, se_G_isOnDisk⟩
theorem k_V_releaseObject_G_stripesOf : CallV i_V_releaseObject i_G_stripesOf NG 73 1 := ⟨⟨rfl, rfl, by decide, by decide, rfl, cb_G_stripesOf, in_G, ⟨by decide, by decide⟩, by decide +kernel⟩, ml_V_73, im_G_stripesOf, se_G_stripesOf⟩
theorem k_V_releaseObject_G_rowOf : CallV i_V_releaseObject i_G_rowOf NG 83 2 := ⟨⟨rfl, rfl, by decide, by decide, rfl, cb_G_rowOf, in_G, ⟨by decide, by decide⟩, by decide +kernel⟩, ml_V_83, im_G_rowOf, se_G_rowOf⟩
theorem k_V_releaseObject_G_placeOf : CallV i_V_releaseObject i_G_placeOf NG 145 2 := ⟨⟨rfl, rfl, by decide, by decide, rfl, cb_G_placeOf, in_G, ⟨by decide, by decide⟩, by decide +kernel⟩, ml_V_145, im_G_placeOf, se_G_placeOf⟩
theorem ml_V_205 : Cond.methodLink NV 205 y_D_releaseSlot ∈ lw_tbl := by decide +kernel
theorem im_D_releaseSlot : Cond.instanceMethod y_D_releaseSlot ∈ lw_tbl := by decide +kernel
theorem se_D_releaseSlot : Cond.selects ND y_D_releaseSlot y_D_releaseSlot ∈ lw_tbl := by decide +kernel
theorem k_V_releaseObject_D_releaseSlot : CallV i_V_releaseObject i_D_releaseSlot ND 205 1 := ⟨⟨rfl, rfl, by decide, by decide, rfl, cb_D_releaseSlot, in_D, ⟨by decide, by decide⟩, by decide +kernel⟩, ml_V_205, im_D_releaseSlot, se_D_releaseSlot⟩
theorem k_V_releaseObject_G_setPlace : CallV i_V_releaseObject i_G_setPlace NG 199 3 := ⟨⟨rfl, rfl, by decide, by decide, rfl, cb_G_setPlace, in_G, ⟨by decide, by decide⟩, by decide +kernel⟩, ml_V_199, im_G_setPlace, se_G_setPlace⟩
theorem ml_V_208 : Cond.methodLink NV 208 y_G_strike ∈ lw_tbl := by decide +kernel
theorem im_G_strike : Cond.instanceMethod y_G_strike ∈ lw_tbl := by decide +kernel
theorem se_G_strike : Cond.selects NG y_G_strike y_G_strike ∈ lw_tbl := by decide +kernel
theorem k_V_releaseObject_G_strike : CallV i_V_releaseObject i_G_strike NG 208 1 := ⟨⟨rfl, rfl, by decide, by decide, rfl, cb_G_strike, in_G, ⟨by decide, by decide⟩, by decide +kernel⟩, ml_V_208, im_G_strike, se_G_strike⟩
theorem ml_V_211 : Cond.methodLink NV 211 y_G_countLost ∈ lw_tbl := by decide +kernel
theorem im_G_countLost : Cond.instanceMethod y_G_countLost ∈ lw_tbl := by decide +kernel
theorem se_G_countLost : Cond.selects NG y_G_countLost y_G_countLost ∈ lw_tbl := by decide +kernel
theorem k_V_isGone_G_countLost : CallV i_V_isGone i_G_countLost NG 211 1 := ⟨⟨rfl, rfl, by decide, by decide, rfl, cb_G_countLost, in_G, ⟨by decide, by decide⟩, by decide +kernel⟩, ml_V_211, im_G_countLost, se_G_countLost⟩
theorem k_V_hasGoneStripe_G_stripesOf : CallV i_V_hasGoneStripe i_G_stripesOf NG 73 1 := ⟨⟨rfl, rfl, by decide, by decide, rfl, cb_G_stripesOf, in_G, ⟨by decide, by decide⟩, by decide +kernel⟩, ml_V_73, im_G_stripesOf, se_G_stripesOf⟩
theorem k_V_hasGoneStripe_G_rowOf : CallV i_V_hasGoneStripe i_G_rowOf NG 83 2 := ⟨⟨rfl, rfl, by decide, by decide, rfl, cb_G_rowOf, in_G, ⟨by decide, by decide⟩, by decide +kernel⟩, ml_V_83, im_G_rowOf, se_G_rowOf⟩
theorem k_V_hasGoneStripe_V_isGone : CallV i_V_hasGoneStripe i_V_isGone NV 123 1 := ⟨⟨rfl, rfl, by decide, by decide, rfl, cb_V_isGone, in_V, ⟨by decide, by decide⟩, by decide +kernel⟩, ml_V_123, im_V_isGone, se_V_isGone⟩
theorem k_V_readStripe_G_placeOf : CallV i_V_readStripe i_G_placeOf NG 145 2 := ⟨⟨rfl, rfl, by decide, by decide, rfl, cb_G_placeOf, in_G, ⟨by decide, by decide⟩, by decide +kernel⟩, ml_V_145, im_G_placeOf, se_G_placeOf⟩
theorem ml_V_217 : Cond.methodLink NV 217 y_V_nextKept ∈ lw_tbl := by decide +kernel
theorem im_V_nextKept : Cond.instanceMethod y_V_nextKept ∈ lw_tbl := by decide +kernel
theorem se_V_nextKept : Cond.selects NV y_V_nextKept y_V_nextKept ∈ lw_tbl := by decide +kernel
theorem k_V_readStripe_V_nextKept : CallV i_V_readStripe i_V_nextKept NV 217 2 := ⟨⟨rfl, rfl, by decide, by decide, rfl, cb_V_nextKept, in_V, ⟨by decide, by decide⟩, by decide +kernel⟩, ml_V_217, im_V_nextKept, se_V_nextKept⟩
theorem ml_V_220 : Cond.methodLink NV 220 y_V_giveEquation ∈ lw_tbl := by decide +kernel
theorem im_V_giveEquation : Cond.instanceMethod y_V_giveEquation ∈ lw_tbl := by decide +kernel
theorem se_V_giveEquation : Cond.selects NV y_V_giveEquation y_V_giveEquation ∈ lw_tbl := by decide +kernel
theorem k_V_readStripe_V_giveEquation : CallV i_V_readStripe i_V_giveEquation NV 220 3 := ⟨⟨rfl, rfl, by decide, by decide, rfl, cb_V_giveEquation, in_V, ⟨by decide, by decide⟩, by decide +kernel⟩, ml_V_220, im_V_giveEquation, se_V_giveEquation⟩
theorem ml_V_223 : Cond.methodLink NV 223 y_C_solve ∈ lw_tbl := by decide +kernel
theorem im_C_solve : Cond.instanceMethod y_C_solve ∈ lw_tbl := by decide +kernel
theorem se_C_solve : Cond.selects NC y_C_solve y_C_solve ∈ lw_tbl := by decide +kernel
theorem k_V_readStripe_C_solve : CallV i_V_readStripe i_C_solve NC 223 0 := ⟨⟨rfl, rfl, by decide, by decide, rfl, cb_C_solve, in_C, ⟨by decide, by decide⟩, by decide +kernel⟩, ml_V_223, im_C_solve, se_C_solve⟩
theorem k_V_nextKept_G_placeOf : CallV i_V_nextKept i_G_placeOf NG 145 2 := ⟨⟨rfl, rfl, by decide, by decide, rfl, cb_G_placeOf, in_G, ⟨by decide, by decide⟩, by decide +kernel⟩, ml_V_145, im_G_placeOf, se_G_placeOf⟩
theorem k_V_giveEquation_G_placeOf : CallV i_V_giveEquation i_G_placeOf NG 145 2 := ⟨⟨rfl, rfl, by decide, by decide, rfl, cb_G_placeOf, in_G, ⟨by decide, by decide⟩, by decide +kernel⟩, ml_V_145, im_G_placeOf, se_G_placeOf⟩
theorem ml_V_226 : Cond.methodLink NV 226 y_C_setEquation ∈ lw_tbl := by decide +kernel
theorem im_C_setEquation : Cond.instanceMethod y_C_setEquation ∈ lw_tbl := by decide +kernel
theorem se_C_setEquation : Cond.selects NC y_C_setEquation y_C_setEquation ∈ lw_tbl := by decide +kernel
theorem k_V_giveEquation_C_setEquation : CallV i_V_giveEquation i_C_setEquation NC 226 2 := ⟨⟨rfl, rfl, by decide, by decide, rfl, cb_C_setEquation, in_C, ⟨by decide, by decide⟩, by decide +kernel⟩, ml_V_226, im_C_setEquation, se_C_setEquation⟩
theorem k_V_giveEquation_D_byteAt : CallV i_V_giveEquation i_D_byteAt ND 136 2 := ⟨⟨rfl, rfl, by decide, by decide, rfl, cb_D_byteAt, in_D, ⟨by decide, by decide⟩, by decide +kernel⟩, ml_V_136, im_D_byteAt, se_D_byteAt⟩
theorem k_V_repairStripe_V_isGone : CallV i_V_repairStripe i_V_isGone NV 123 1 := ⟨⟨rfl, rfl, by decide, by decide, rfl, cb_V_isGone, in_V, ⟨by decide, by decide⟩, by decide +kernel⟩, ml_V_123, im_V_isGone, se_V_isGone⟩
theorem k_V_repairStripe_G_countLost : CallV i_V_repairStripe i_G_countLost NG 211 1 := ⟨⟨rfl, rfl, by decide, by decide, rfl, cb_G_countLost, in_G, ⟨by decide, by decide⟩, by decide +kernel⟩, ml_V_211, im_G_countLost, se_G_countLost⟩
theorem k_V_repairStripe_V_readStripe : CallV i_V_repairStripe i_V_readStripe NV 86 1 := ⟨⟨rfl, rfl, by decide, by decide, rfl, cb_V_readStripe, in_V, ⟨by decide, by decide⟩, by decide +kernel⟩, ml_V_86, im_V_readStripe, se_V_readStripe⟩
theorem k_V_repairStripe_G_placeOf : CallV i_V_repairStripe i_G_placeOf NG 145 2 := ⟨⟨rfl, rfl, by decide, by decide, rfl, cb_G_placeOf, in_G, ⟨by decide, by decide⟩, by decide +kernel⟩, ml_V_145, im_G_placeOf, se_G_placeOf⟩
theorem k_V_repairStripe_V_placeShard : CallV i_V_repairStripe i_V_placeShard NV 180 2 := ⟨⟨rfl, rfl, by decide, by decide, rfl, cb_V_placeShard, in_V, ⟨by decide, by decide⟩, by decide +kernel⟩, ml_V_180, im_V_placeShard, se_V_placeShard⟩
theorem k_V_hasWrongShard_V_readStripe : CallV i_V_hasWrongShard i_V_readStripe NV 86 1 := ⟨⟨rfl, rfl, by decide, by decide, rfl, cb_V_readStripe, in_V, ⟨by decide, by decide⟩, by decide +kernel⟩, ml_V_86, im_V_readStripe, se_V_readStripe⟩
theorem k_V_hasWrongShard_G_placeOf : CallV i_V_hasWrongShard i_G_placeOf NG 145 2 := ⟨⟨rfl, rfl, by decide, by decide, rfl, cb_G_placeOf, in_G, ⟨by decide, by decide⟩, by decide +kernel⟩, ml_V_145, im_G_placeOf, se_G_placeOf⟩
theorem ml_V_229 : Cond.methodLink NV 229 y_V_isAsWorkedOut ∈ lw_tbl := by decide +kernel
theorem im_V_isAsWorkedOut : Cond.instanceMethod y_V_isAsWorkedOut ∈ lw_tbl := by decide +kernel
theorem se_V_isAsWorkedOut : Cond.selects NV y_V_isAsWorkedOut y_V_isAsWorkedOut ∈ lw_tbl := by decide +kernel
theorem k_V_hasWrongShard_V_isAsWorkedOut : CallV i_V_hasWrongShard i_V_isAsWorkedOut NV 229 2 := ⟨⟨rfl, rfl, by decide, by decide, rfl, cb_V_isAsWorkedOut, in_V, ⟨by decide, by decide⟩, by decide +kernel⟩, ml_V_229, im_V_isAsWorkedOut, se_V_isAsWorkedOut⟩
theorem k_V_isAsWorkedOut_D_byteAt : CallV i_V_isAsWorkedOut i_D_byteAt ND 136 2 := ⟨⟨rfl, rfl, by decide, by decide, rfl, cb_D_byteAt, in_D, ⟨by decide, by decide⟩, by decide +kernel⟩, ml_V_136, im_D_byteAt, se_D_byteAt⟩
theorem k_V_isAsWorkedOut_C_shardByte : CallV i_V_isAsWorkedOut i_C_shardByte NC 196 2 := ⟨⟨rfl, rfl, by decide, by decide, rfl, cb_C_shardByte, in_C, ⟨by decide, by decide⟩, by decide +kernel⟩, ml_V_196, im_C_shardByte, se_C_shardByte⟩
theorem ml_R_51 : Cond.methodLink NR 51 y_R_shards ∈ lw_tbl := by decide +kernel
theorem im_R_shards : Cond.instanceMethod y_R_shards ∈ lw_tbl := by decide +kernel
theorem se_R_shards : Cond.selects NR y_R_shards y_R_shards ∈ lw_tbl := by decide +kernel
theorem k_R_init_R_shards : CallV i_R_init i_R_shards NR 51 0 := ⟨⟨rfl, rfl, by decide, by decide, rfl, cb_R_shards, in_R, ⟨by decide, by decide⟩, by decide +kernel⟩, ml_R_51, im_R_shards, se_R_shards⟩
theorem ml_R_55 : Cond.methodLink NR 55 y_R_inverse ∈ lw_tbl := by decide +kernel
theorem st_R_inverse : Cond.static y_R_inverse ∈ lw_tbl := by decide +kernel
theorem k_R_init_R_inverse : CallS i_R_init i_R_inverse 55 1 := ⟨⟨rfl, rfl, by decide, by decide, rfl, cb_R_inverse, in_R, ⟨by decide, by decide⟩, by decide +kernel⟩, ml_R_55, st_R_inverse⟩
theorem ml_R_67 : Cond.methodLink NR 67 y_R_times ∈ lw_tbl := by decide +kernel
theorem st_R_times : Cond.static y_R_times ∈ lw_tbl := by decide +kernel
theorem k_R_inverse_R_times : CallS i_R_inverse i_R_times 67 2 := ⟨⟨rfl, rfl, by decide, by decide, rfl, cb_R_times, in_R, ⟨by decide, by decide⟩, by decide +kernel⟩, ml_R_67, st_R_times⟩
theorem k_R_lost_R_shards : CallV i_R_lost i_R_shards NR 51 0 := ⟨⟨rfl, rfl, by decide, by decide, rfl, cb_R_shards, in_R, ⟨by decide, by decide⟩, by decide +kernel⟩, ml_R_51, im_R_shards, se_R_shards⟩
theorem ml_R_71 : Cond.methodLink NR 71 y_R_place ∈ lw_tbl := by decide +kernel
theorem im_R_place : Cond.instanceMethod y_R_place ∈ lw_tbl := by decide +kernel
theorem se_R_place : Cond.selects NR y_R_place y_R_place ∈ lw_tbl := by decide +kernel
theorem k_R_lost_R_place : CallV i_R_lost i_R_place NR 71 3 := ⟨⟨rfl, rfl, by decide, by decide, rfl, cb_R_place, in_R, ⟨by decide, by decide⟩, by decide +kernel⟩, ml_R_71, im_R_place, se_R_place⟩
theorem ml_R_75 : Cond.methodLink NR 75 y_R_factor ∈ lw_tbl := by decide +kernel
theorem im_R_factor : Cond.instanceMethod y_R_factor ∈ lw_tbl := by decide +kernel
theorem se_R_factor : Cond.selects NR y_R_factor y_R_factor ∈ lw_tbl := by decide +kernel
theorem k_R_worked_R_factor : CallV i_R_worked i_R_factor NR 75 2 := ⟨⟨rfl, rfl, by decide, by decide, rfl, cb_R_factor, in_R, ⟨by decide, by decide⟩, by decide +kernel⟩, ml_R_75, im_R_factor, se_R_factor⟩
theorem k_R_worked_R_times : CallS i_R_worked i_R_times 67 2 := ⟨⟨rfl, rfl, by decide, by decide, rfl, cb_R_times, in_R, ⟨by decide, by decide⟩, by decide +kernel⟩, ml_R_67, st_R_times⟩
theorem k_R_writeRows_R_shards : CallV i_R_writeRows i_R_shards NR 51 0 := ⟨⟨rfl, rfl, by decide, by decide, rfl, cb_R_shards, in_R, ⟨by decide, by decide⟩, by decide +kernel⟩, ml_R_51, im_R_shards, se_R_shards⟩
theorem k_R_writeRows_R_place : CallV i_R_writeRows i_R_place NR 71 3 := ⟨⟨rfl, rfl, by decide, by decide, rfl, cb_R_place, in_R, ⟨by decide, by decide⟩, by decide +kernel⟩, ml_R_71, im_R_place, se_R_place⟩
theorem k_R_writeRows_R_factor : CallV i_R_writeRows i_R_factor NR 75 2 := ⟨⟨rfl, rfl, by decide, by decide, rfl, cb_R_factor, in_R, ⟨by decide, by decide⟩, by decide +kernel⟩, ml_R_75, im_R_factor, se_R_factor⟩
theorem k_R_solve_R_inverse : CallS i_R_solve i_R_inverse 55 1 := ⟨⟨rfl, rfl, by decide, by decide, rfl, cb_R_inverse, in_R, ⟨by decide, by decide⟩, by decide +kernel⟩, ml_R_55, st_R_inverse⟩
theorem k_R_solve_R_times : CallS i_R_solve i_R_times 67 2 := ⟨⟨rfl, rfl, by decide, by decide, rfl, cb_R_times, in_R, ⟨by decide, by decide⟩, by decide +kernel⟩, ml_R_67, st_R_times⟩
theorem ml_R_78 : Cond.methodLink NR 78 y_R_writeRows ∈ lw_tbl := by decide +kernel
theorem im_R_writeRows : Cond.instanceMethod y_R_writeRows ∈ lw_tbl := by decide +kernel
theorem se_R_writeRows : Cond.selects NR y_R_writeRows y_R_writeRows ∈ lw_tbl := by decide +kernel
theorem k_R_readStripe_R_writeRows : CallV i_R_readStripe i_R_writeRows NR 78 3 := ⟨⟨rfl, rfl, by decide, by decide, rfl, cb_R_writeRows, in_R, ⟨by decide, by decide⟩, by decide +kernel⟩, ml_R_78, im_R_writeRows, se_R_writeRows⟩
theorem ml_R_82 : Cond.methodLink NR 82 y_R_solve ∈ lw_tbl := by decide +kernel
theorem im_R_solve : Cond.instanceMethod y_R_solve ∈ lw_tbl := by decide +kernel
theorem se_R_solve : Cond.selects NR y_R_solve y_R_solve ∈ lw_tbl := by decide +kernel
theorem k_R_readStripe_R_solve : CallV i_R_readStripe i_R_solve NR 82 0 := ⟨⟨rfl, rfl, by decide, by decide, rfl, cb_R_solve, in_R, ⟨by decide, by decide⟩, by decide +kernel⟩, ml_R_82, im_R_solve, se_R_solve⟩
theorem ml_R_85 : Cond.methodLink NR 85 y_R_free ∈ lw_tbl := by decide +kernel
theorem im_R_free : Cond.instanceMethod y_R_free ∈ lw_tbl := by decide +kernel
theorem se_R_free : Cond.selects NR y_R_free y_R_free ∈ lw_tbl := by decide +kernel
theorem k_R_slotFor_R_free : CallV i_R_slotFor i_R_free NR 85 1 := ⟨⟨rfl, rfl, by decide, by decide, rfl, cb_R_free, in_R, ⟨by decide, by decide⟩, by decide +kernel⟩, ml_R_85, im_R_free, se_R_free⟩
theorem k_R_slotFor_R_shards : CallV i_R_slotFor i_R_shards NR 51 0 := ⟨⟨rfl, rfl, by decide, by decide, rfl, cb_R_shards, in_R, ⟨by decide, by decide⟩, by decide +kernel⟩, ml_R_51, im_R_shards, se_R_shards⟩
theorem k_R_slotFor_R_place : CallV i_R_slotFor i_R_place NR 71 3 := ⟨⟨rfl, rfl, by decide, by decide, rfl, cb_R_place, in_R, ⟨by decide, by decide⟩, by decide +kernel⟩, ml_R_71, im_R_place, se_R_place⟩
theorem ml_R_88 : Cond.methodLink NR 88 y_R_slotFor ∈ lw_tbl := by decide +kernel
theorem im_R_slotFor : Cond.instanceMethod y_R_slotFor ∈ lw_tbl := by decide +kernel
theorem se_R_slotFor : Cond.selects NR y_R_slotFor y_R_slotFor ∈ lw_tbl := by decide +kernel
theorem k_R_lay_R_slotFor : CallV i_R_lay i_R_slotFor NR 88 2 := ⟨⟨rfl, rfl, by decide, by decide, rfl, cb_R_slotFor, in_R, ⟨by decide, by decide⟩, by decide +kernel⟩, ml_R_88, im_R_slotFor, se_R_slotFor⟩
theorem ml_R_91 : Cond.methodLink NR 91 y_R_worked ∈ lw_tbl := by decide +kernel
theorem im_R_worked : Cond.instanceMethod y_R_worked ∈ lw_tbl := by decide +kernel
theorem se_R_worked : Cond.selects NR y_R_worked y_R_worked ∈ lw_tbl := by decide +kernel
theorem k_R_lay_R_worked : CallV i_R_lay i_R_worked NR 91 2 := ⟨⟨rfl, rfl, by decide, by decide, rfl, cb_R_worked, in_R, ⟨by decide, by decide⟩, by decide +kernel⟩, ml_R_91, im_R_worked, se_R_worked⟩
theorem ml_R_94 : Cond.methodLink NR 94 y_R_isObject ∈ lw_tbl := by decide +kernel
theorem st_R_isObject : Cond.static y_R_isObject ∈ lw_tbl := by decide +kernel
theorem k_R_store_R_isObject : CallS i_R_store i_R_isObject 94 1 := ⟨⟨rfl, rfl, by decide, by decide, rfl, cb_R_isObject, in_R, ⟨by decide, by decide⟩, by decide +kernel⟩, ml_R_94, st_R_isObject⟩
theorem ml_R_98 : Cond.methodLink NR 98 y_R_clear ∈ lw_tbl := by decide +kernel
theorem im_R_clear : Cond.instanceMethod y_R_clear ∈ lw_tbl := by decide +kernel
theorem se_R_clear : Cond.selects NR y_R_clear y_R_clear ∈ lw_tbl := by decide +kernel
theorem k_R_store_R_clear : CallV i_R_store i_R_clear NR 98 1 := ⟨⟨rfl, rfl, by decide, by decide, rfl, cb_R_clear, in_R, ⟨by decide, by decide⟩, by decide +kernel⟩, ml_R_98, im_R_clear, se_R_clear⟩
theorem ml_R_101 : Cond.methodLink NR 101 y_R_stripesOf ∈ lw_tbl := by decide +kernel
theorem im_R_stripesOf : Cond.instanceMethod y_R_stripesOf ∈ lw_tbl := by decide +kernel
theorem se_R_stripesOf : Cond.selects NR y_R_stripesOf y_R_stripesOf ∈ lw_tbl := by decide +kernel
theorem k_R_store_R_stripesOf : CallV i_R_store i_R_stripesOf NR 101 1 := ⟨⟨rfl, rfl, by decide, by decide, rfl, cb_R_stripesOf, in_R, ⟨by decide, by decide⟩, by decide +kernel⟩, ml_R_101, im_R_stripesOf, se_R_stripesOf⟩
theorem k_R_store_R_shards : CallV i_R_store i_R_shards NR 51 0 := ⟨⟨rfl, rfl, by decide, by decide, rfl, cb_R_shards, in_R, ⟨by decide, by decide⟩, by decide +kernel⟩, ml_R_51, im_R_shards, se_R_shards⟩
theorem ml_R_104 : Cond.methodLink NR 104 y_R_lay ∈ lw_tbl := by decide +kernel
theorem im_R_lay : Cond.instanceMethod y_R_lay ∈ lw_tbl := by decide +kernel
theorem se_R_lay : Cond.selects NR y_R_lay y_R_lay ∈ lw_tbl := by decide +kernel
theorem k_R_store_R_lay : CallV i_R_store i_R_lay NR 104 3 := ⟨⟨rfl, rfl, by decide, by decide, rfl, cb_R_lay, in_R, ⟨by decide, by decide⟩, by decide +kernel⟩, ml_R_104, im_R_lay, se_R_lay⟩
theorem k_R_isThere_R_isObject : CallS i_R_isThere i_R_isObject 94 1 := ⟨⟨rfl, rfl, by decide, by decide, rfl, cb_R_isObject, in_R, ⟨by decide, by decide⟩, by decide +kernel⟩, ml_R_94, st_R_isObject⟩
theorem ml_R_108 : Cond.methodLink NR 108 y_R_isThere ∈ lw_tbl := by decide +kernel
theorem im_R_isThere : Cond.instanceMethod y_R_isThere ∈ lw_tbl := by decide +kernel
theorem se_R_isThere : Cond.selects NR y_R_isThere y_R_isThere ∈ lw_tbl := by decide +kernel
theorem k_R_drop_R_isThere : CallV i_R_drop i_R_isThere NR 108 1 := ⟨⟨rfl, rfl, by decide, by decide, rfl, cb_R_isThere, in_R, ⟨by decide, by decide⟩, by decide +kernel⟩, ml_R_108, im_R_isThere, se_R_isThere⟩
theorem k_R_drop_R_clear : CallV i_R_drop i_R_clear NR 98 1 := ⟨⟨rfl, rfl, by decide, by decide, rfl, cb_R_clear, in_R, ⟨by decide, by decide⟩, by decide +kernel⟩, ml_R_98, im_R_clear, se_R_clear⟩
theorem k_R_get_R_isThere : CallV i_R_get i_R_isThere NR 108 1 := ⟨⟨rfl, rfl, by decide, by decide, rfl, cb_R_isThere, in_R, ⟨by decide, by decide⟩, by decide +kernel⟩, ml_R_108, im_R_isThere, se_R_isThere⟩
theorem k_R_get_R_stripesOf : CallV i_R_get i_R_stripesOf NR 101 1 := ⟨⟨rfl, rfl, by decide, by decide, rfl, cb_R_stripesOf, in_R, ⟨by decide, by decide⟩, by decide +kernel⟩, ml_R_101, im_R_stripesOf, se_R_stripesOf⟩
theorem ml_R_111 : Cond.methodLink NR 111 y_R_lost ∈ lw_tbl := by decide +kernel
theorem im_R_lost : Cond.instanceMethod y_R_lost ∈ lw_tbl := by decide +kernel
theorem se_R_lost : Cond.selects NR y_R_lost y_R_lost ∈ lw_tbl := by decide +kernel
theorem k_R_get_R_lost : CallV i_R_get i_R_lost NR 111 2 := ⟨⟨rfl, rfl, by decide, by decide, rfl, cb_R_lost, in_R, ⟨by decide, by decide⟩, by decide +kernel⟩, ml_R_111, im_R_lost, se_R_lost⟩
theorem ml_R_114 : Cond.methodLink NR 114 y_R_readStripe ∈ lw_tbl := by decide +kernel
theorem im_R_readStripe : Cond.instanceMethod y_R_readStripe ∈ lw_tbl := by decide +kernel
theorem se_R_readStripe : Cond.selects NR y_R_readStripe y_R_readStripe ∈ lw_tbl := by decide +kernel
theorem k_R_get_R_readStripe : CallV i_R_get i_R_readStripe NR 114 2 := ⟨⟨rfl, rfl, by decide, by decide, rfl, cb_R_readStripe, in_R, ⟨by decide, by decide⟩, by decide +kernel⟩, ml_R_114, im_R_readStripe, se_R_readStripe⟩
theorem ml_R_121 : Cond.methodLink NR 121 y_R_isDisk ∈ lw_tbl := by decide +kernel
theorem st_R_isDisk : Cond.static y_R_isDisk ∈ lw_tbl := by decide +kernel
theorem k_R_fail_R_isDisk : CallS i_R_fail i_R_isDisk 121 1 := ⟨⟨rfl, rfl, by decide, by decide, rfl, cb_R_isDisk, in_R, ⟨by decide, by decide⟩, by decide +kernel⟩, ml_R_121, st_R_isDisk⟩
theorem k_R_renew_R_isDisk : CallS i_R_renew i_R_isDisk 121 1 := ⟨⟨rfl, rfl, by decide, by decide, rfl, cb_R_isDisk, in_R, ⟨by decide, by decide⟩, by decide +kernel⟩, ml_R_121, st_R_isDisk⟩
theorem k_R_repair_R_stripesOf : CallV i_R_repair i_R_stripesOf NR 101 1 := ⟨⟨rfl, rfl, by decide, by decide, rfl, cb_R_stripesOf, in_R, ⟨by decide, by decide⟩, by decide +kernel⟩, ml_R_101, im_R_stripesOf, se_R_stripesOf⟩
theorem k_R_repair_R_lost : CallV i_R_repair i_R_lost NR 111 2 := ⟨⟨rfl, rfl, by decide, by decide, rfl, cb_R_lost, in_R, ⟨by decide, by decide⟩, by decide +kernel⟩, ml_R_111, im_R_lost, se_R_lost⟩
theorem k_R_repair_R_readStripe : CallV i_R_repair i_R_readStripe NR 114 2 := ⟨⟨rfl, rfl, by decide, by decide, rfl, cb_R_readStripe, in_R, ⟨by decide, by decide⟩, by decide +kernel⟩, ml_R_114, im_R_readStripe, se_R_readStripe⟩
theorem k_R_repair_R_shards : CallV i_R_repair i_R_shards NR 51 0 := ⟨⟨rfl, rfl, by decide, by decide, rfl, cb_R_shards, in_R, ⟨by decide, by decide⟩, by decide +kernel⟩, ml_R_51, im_R_shards, se_R_shards⟩
theorem k_R_repair_R_place : CallV i_R_repair i_R_place NR 71 3 := ⟨⟨rfl, rfl, by decide, by decide, rfl, cb_R_place, in_R, ⟨by decide, by decide⟩, by decide +kernel⟩, ml_R_71, im_R_place, se_R_place⟩
theorem k_R_repair_R_lay : CallV i_R_repair i_R_lay NR 104 3 := ⟨⟨rfl, rfl, by decide, by decide, rfl, cb_R_lay, in_R, ⟨by decide, by decide⟩, by decide +kernel⟩, ml_R_104, im_R_lay, se_R_lay⟩
theorem k_R_check_R_isThere : CallV i_R_check i_R_isThere NR 108 1 := ⟨⟨rfl, rfl, by decide, by decide, rfl, cb_R_isThere, in_R, ⟨by decide, by decide⟩, by decide +kernel⟩, ml_R_108, im_R_isThere, se_R_isThere⟩
theorem k_R_check_R_stripesOf : CallV i_R_check i_R_stripesOf NR 101 1 := ⟨⟨rfl, rfl, by decide, by decide, rfl, cb_R_stripesOf, in_R, ⟨by decide, by decide⟩, by decide +kernel⟩, ml_R_101, im_R_stripesOf, se_R_stripesOf⟩
theorem k_R_check_R_lost : CallV i_R_check i_R_lost NR 111 2 := ⟨⟨rfl, rfl, by decide, by decide, rfl, cb_R_lost, in_R, ⟨by decide, by decide⟩, by decide +kernel⟩, ml_R_111, im_R_lost, se_R_lost⟩
theorem k_R_check_R_readStripe : CallV i_R_check i_R_readStripe NR 114 2 := ⟨⟨rfl, rfl, by decide, by decide, rfl, cb_R_readStripe, in_R, ⟨by decide, by decide⟩, by decide +kernel⟩, ml_R_114, im_R_readStripe, se_R_readStripe⟩
theorem k_R_check_R_shards : CallV i_R_check i_R_shards NR 51 0 := ⟨⟨rfl, rfl, by decide, by decide, rfl, cb_R_shards, in_R, ⟨by decide, by decide⟩, by decide +kernel⟩, ml_R_51, im_R_shards, se_R_shards⟩
theorem k_R_check_R_place : CallV i_R_check i_R_place NR 71 3 := ⟨⟨rfl, rfl, by decide, by decide, rfl, cb_R_place, in_R, ⟨by decide, by decide⟩, by decide +kernel⟩, ml_R_71, im_R_place, se_R_place⟩
theorem k_R_check_R_worked : CallV i_R_check i_R_worked NR 91 2 := ⟨⟨rfl, rfl, by decide, by decide, rfl, cb_R_worked, in_R, ⟨by decide, by decide⟩, by decide +kernel⟩, ml_R_91, im_R_worked, se_R_worked⟩
theorem k_R_refusal_R_isDisk : CallS i_R_refusal i_R_isDisk 121 1 := ⟨⟨rfl, rfl, by decide, by decide, rfl, cb_R_isDisk, in_R, ⟨by decide, by decide⟩, by decide +kernel⟩, ml_R_121, st_R_isDisk⟩
theorem ml_R_124 : Cond.methodLink NR 124 y_R_refusal ∈ lw_tbl := by decide +kernel
theorem im_R_refusal : Cond.instanceMethod y_R_refusal ∈ lw_tbl := by decide +kernel
theorem se_R_refusal : Cond.selects NR y_R_refusal y_R_refusal ∈ lw_tbl := by decide +kernel
theorem k_R_harm_R_refusal : CallV i_R_harm i_R_refusal NR 124 3 := ⟨⟨rfl, rfl, by decide, by decide, rfl, cb_R_refusal, in_R, ⟨by decide, by decide⟩, by decide +kernel⟩, ml_R_124, im_R_refusal, se_R_refusal⟩
theorem k_R_stored_R_refusal : CallV i_R_stored i_R_refusal NR 124 3 := ⟨⟨rfl, rfl, by decide, by decide, rfl, cb_R_refusal, in_R, ⟨by decide, by decide⟩, by decide +kernel⟩, ml_R_124, im_R_refusal, se_R_refusal⟩
theorem k_R_where_R_isThere : CallV i_R_where i_R_isThere NR 108 1 := ⟨⟨rfl, rfl, by decide, by decide, rfl, cb_R_isThere, in_R, ⟨by decide, by decide⟩, by decide +kernel⟩, ml_R_108, im_R_isThere, se_R_isThere⟩
theorem k_R_where_R_stripesOf : CallV i_R_where i_R_stripesOf NR 101 1 := ⟨⟨rfl, rfl, by decide, by decide, rfl, cb_R_stripesOf, in_R, ⟨by decide, by decide⟩, by decide +kernel⟩, ml_R_101, im_R_stripesOf, se_R_stripesOf⟩
theorem k_R_where_R_shards : CallV i_R_where i_R_shards NR 51 0 := ⟨⟨rfl, rfl, by decide, by decide, rfl, cb_R_shards, in_R, ⟨by decide, by decide⟩, by decide +kernel⟩, ml_R_51, im_R_shards, se_R_shards⟩
theorem k_R_where_R_place : CallV i_R_where i_R_place NR 71 3 := ⟨⟨rfl, rfl, by decide, by decide, rfl, cb_R_place, in_R, ⟨by decide, by decide⟩, by decide +kernel⟩, ml_R_71, im_R_place, se_R_place⟩
theorem k_R_length_R_isThere : CallV i_R_length i_R_isThere NR 108 1 := ⟨⟨rfl, rfl, by decide, by decide, rfl, cb_R_isThere, in_R, ⟨by decide, by decide⟩, by decide +kernel⟩, ml_R_108, im_R_isThere, se_R_isThere⟩
theorem k_R_room_R_isDisk : CallS i_R_room i_R_isDisk 121 1 := ⟨⟨rfl, rfl, by decide, by decide, rfl, cb_R_isDisk, in_R, ⟨by decide, by decide⟩, by decide +kernel⟩, ml_R_121, st_R_isDisk⟩
theorem k_R_room_R_free : CallV i_R_room i_R_free NR 85 1 := ⟨⟨rfl, rfl, by decide, by decide, rfl, cb_R_free, in_R, ⟨by decide, by decide⟩, by decide +kernel⟩, ml_R_85, im_R_free, se_R_free⟩
theorem k_R_product_R_inverse : CallS i_R_product i_R_inverse 55 1 := ⟨⟨rfl, rfl, by decide, by decide, rfl, cb_R_inverse, in_R, ⟨by decide, by decide⟩, by decide +kernel⟩, ml_R_55, st_R_inverse⟩
theorem k_R_product_R_times : CallS i_R_product i_R_times 67 2 := ⟨⟨rfl, rfl, by decide, by decide, rfl, cb_R_times, in_R, ⟨by decide, by decide⟩, by decide +kernel⟩, ml_R_67, st_R_times⟩
theorem ml_G_25 : Cond.methodLink NG 25 y_A_fill ∈ lw_tbl := by decide +kernel
theorem st_A_fill : Cond.static y_A_fill ∈ lw_tbl := by decide +kernel
theorem k_G_init_A_fill : CallS i_G_init i_A_fill 25 2 := ⟨⟨rfl, rfl, by decide, by decide, rfl, cb_A_fill, in_A, ⟨by decide, by decide⟩, by decide +kernel⟩, ml_G_25, st_A_fill⟩
theorem ml_G_31 : Cond.methodLink NG 31 y_G_isPlaceOnDisk ∈ lw_tbl := by decide +kernel
theorem st_G_isPlaceOnDisk : Cond.static y_G_isPlaceOnDisk ∈ lw_tbl := by decide +kernel
theorem k_G_isOnDisk_G_isPlaceOnDisk : CallS i_G_isOnDisk i_G_isPlaceOnDisk 31 2 := ⟨⟨rfl, rfl, by decide, by decide, rfl, cb_G_isPlaceOnDisk, in_G, ⟨by decide, by decide⟩, by decide +kernel⟩, ml_G_31, st_G_isPlaceOnDisk⟩
theorem k_G_loseDisk_G_isPlaceOnDisk : CallS i_G_loseDisk i_G_isPlaceOnDisk 31 2 := ⟨⟨rfl, rfl, by decide, by decide, rfl, cb_G_isPlaceOnDisk, in_G, ⟨by decide, by decide⟩, by decide +kernel⟩, ml_G_31, st_G_isPlaceOnDisk⟩
theorem ml_C_31 : Cond.methodLink NC 31 y_C_factor ∈ lw_tbl := by decide +kernel
theorem st_C_factor : Cond.static y_C_factor ∈ lw_tbl := by decide +kernel
theorem k_C_init_C_factor : CallS i_C_init i_C_factor 31 3 := ⟨⟨rfl, rfl, by decide, by decide, rfl, cb_C_factor, in_C, ⟨by decide, by decide⟩, by decide +kernel⟩, ml_C_31, st_C_factor⟩
theorem nl_C_35 : Cond.methodLinkNest NC 35 y_V_inverse "StripeVault" ∈ lw_tbl := by decide +kernel
theorem k_C_factor_V_inverse : CallSN i_C_factor i_V_inverse 35 1 "StripeVault" := ⟨⟨rfl, rfl, by decide, by decide, rfl, cb_V_inverse, in_V, ⟨by decide, by decide⟩, by decide +kernel⟩, nl_C_35, st_V_inverse⟩
theorem nl_C_39 : Cond.methodLinkNest NC 39 y_V_times "StripeVault" ∈ lw_tbl := by decide +kernel
theorem k_C_shardByte_V_times : CallSN i_C_shardByte i_V_times 39 2 "StripeVault" := ⟨⟨rfl, rfl, by decide, by decide, rfl, cb_V_times, in_V, ⟨by decide, by decide⟩, by decide +kernel⟩, nl_C_39, st_V_times⟩
theorem k_C_solve_V_inverse : CallSN i_C_solve i_V_inverse 35 1 "StripeVault" := ⟨⟨rfl, rfl, by decide, by decide, rfl, cb_V_inverse, in_V, ⟨by decide, by decide⟩, by decide +kernel⟩, nl_C_35, st_V_inverse⟩
theorem ml_C_49 : Cond.methodLink NC 49 y_C_multiplyLine ∈ lw_tbl := by decide +kernel
theorem im_C_multiplyLine : Cond.instanceMethod y_C_multiplyLine ∈ lw_tbl := by decide +kernel
theorem se_C_multiplyLine : Cond.selects NC y_C_multiplyLine y_C_multiplyLine ∈ lw_tbl := by decide +kernel
theorem k_C_solve_C_multiplyLine : CallV i_C_solve i_C_multiplyLine NC 49 2 := ⟨⟨rfl, rfl, by decide, by decide, rfl, cb_C_multiplyLine, in_C, ⟨by decide, by decide⟩, by decide +kernel⟩, ml_C_49, im_C_multiplyLine, se_C_multiplyLine⟩
theorem ml_C_53 : Cond.methodLink NC 53 y_C_addLine ∈ lw_tbl := by decide +kernel
theorem im_C_addLine : Cond.instanceMethod y_C_addLine ∈ lw_tbl := by decide +kernel
theorem se_C_addLine : Cond.selects NC y_C_addLine y_C_addLine ∈ lw_tbl := by decide +kernel
theorem k_C_solve_C_addLine : CallV i_C_solve i_C_addLine NC 53 3 := ⟨⟨rfl, rfl, by decide, by decide, rfl, cb_C_addLine, in_C, ⟨by decide, by decide⟩, by decide +kernel⟩, ml_C_53, im_C_addLine, se_C_addLine⟩
theorem k_C_multiplyLine_V_times : CallSN i_C_multiplyLine i_V_times 39 2 "StripeVault" := ⟨⟨rfl, rfl, by decide, by decide, rfl, cb_V_times, in_V, ⟨by decide, by decide⟩, by decide +kernel⟩, nl_C_39, st_V_times⟩
theorem k_C_addLine_V_times : CallSN i_C_addLine i_V_times 39 2 "StripeVault" := ⟨⟨rfl, rfl, by decide, by decide, rfl, cb_V_times, in_V, ⟨by decide, by decide⟩, by decide +kernel⟩, nl_C_39, st_V_times⟩
theorem nl_D_25 : Cond.methodLinkNest ND 25 y_V_placeAt "StripeVault" ∈ lw_tbl := by decide +kernel
theorem k_D_stop_V_placeAt : CallSN i_D_stop i_V_placeAt 25 2 "StripeVault" := ⟨⟨rfl, rfl, by decide, by decide, rfl, cb_V_placeAt, in_V, ⟨by decide, by decide⟩, by decide +kernel⟩, nl_D_25, st_V_placeAt⟩
theorem k_D_takeSlot_V_placeAt : CallSN i_D_takeSlot i_V_placeAt 25 2 "StripeVault" := ⟨⟨rfl, rfl, by decide, by decide, rfl, cb_V_placeAt, in_V, ⟨by decide, by decide⟩, by decide +kernel⟩, nl_D_25, st_V_placeAt⟩
end
section
/-! Calls by the number of arguments, printed by wip/whole/gen/arity.py -/
section ARITY
variable {l : Launch} {I I' : MI} {pc : Nat} {lv : List (Nat × Value)} {M : List va_E} {k n : Nat} {out : Out}
theorem nar01v : ∀ v : Fin 2, narrow .boolean (.int (nI v.val)) = .int (nI v.val) := by decide +kernel
theorem J.zreturnN {v : Nat} (hd : decode I.cc pc = .ok (.ireturn, 1)) (hr : I.ret = some .boolean) (hv : v < 2) (hk : k ≤ I.mc) (hn : n ≤ I.ms) : J l I pc lv [.int (nI v)] M k n (.inl (some (.int (nI v)), M)) := J.zreturn hd hr (nar01v ⟨v, hv⟩) hk hn
theorem J.widen {st : List Value} {k' n' : Nat} (h1 : k ≤ k') (h2 : n ≤ n') (kk : J l I pc lv st M k' n' out) : J l I pc lv st M k n out := fun D cA ad p e s m args below meth c A locs H ls h => W.widen h1 h2 (kk D cA ad p e s m args below meth c A locs H ls h)
theorem J.v0i {index b ci : Nat} {fs : List Value} {C : String} {T : u_T} {N : Nat} {v : Value} {rest : List Value} {M' : List va_E} (hC : Con l I' (.ref b :: []) M (.inl (some v, M'))) (hc : CallV I I' C index 0) (hd : decode I.cc pc = .ok (.invokevirtual index, 3)) (hM : M[b]? = some (.inr (ci, fs))) (hcl : vwCl[ci]? = some (C, T, N)) (hL : M'.length = M.length) (kk : J l I (pc + 3) lv (v :: rest) M' (k + I'.mc) (n + I'.ms) out) (hw : wsum rest ≤ 8 := by exact Nat.le_of_ble_eq_true rfl) (hf : k + I'.mc ≤ I.rm.cells ∧ n + I'.ms ≤ I.rm.slots := by exact ⟨by decide, by decide⟩) : J l I pc lv (.ref b :: rest) M k n out := J.invokevirtual (as := []) hC hc hd hM hcl rfl hw hf (Or.inl hL) kk
theorem J.v0v {index b ci : Nat} {fs : List Value} {C : String} {T : u_T} {N : Nat} {rest : List Value} {M' : List va_E} (hC : Con l I' (.ref b :: []) M (.inl (none, M'))) (hc : CallV I I' C index 0) (hd : decode I.cc pc = .ok (.invokevirtual index, 3)) (hM : M[b]? = some (.inr (ci, fs))) (hcl : vwCl[ci]? = some (C, T, N)) (hL : M'.length = M.length) (kk : J l I (pc + 3) lv (rest) M' (k + I'.mc) (n + I'.ms) out) (hw : wsum rest ≤ 8 := by exact Nat.le_of_ble_eq_true rfl) (hf : k + I'.mc ≤ I.rm.cells ∧ n + I'.ms ≤ I.rm.slots := by exact ⟨by decide, by decide⟩) : J l I pc lv (.ref b :: rest) M k n out := J.invokevirtual (as := []) hC hc hd hM hcl rfl hw hf (Or.inl hL) kk
theorem J.t0 {index b ci : Nat} {fs : List Value} {C : String} {T : u_T} {N : Nat} {rest : List Value} {E : String} {M' : List va_E} (hC : Con l I' (.ref b :: []) M (.inr (E, M'))) (hc : CallV I I' C index 0) (hd : decode I.cc pc = .ok (.invokevirtual index, 3)) (hM : M[b]? = some (.inr (ci, fs))) (hcl : vwCl[ci]? = some (C, T, N)) (hw : wsum rest ≤ 8 := by exact Nat.le_of_ble_eq_true rfl) (htab : I.tab = [] := by rfl) (hf : k + I'.mc ≤ I.mc ∧ n + I'.ms ≤ I.ms := by exact ⟨by decide, by decide⟩) (hr : I.mc ≤ I.rm.cells ∧ I.ms ≤ I.rm.slots := by exact ⟨by decide, by decide⟩) : J l I pc lv (.ref b :: rest) M k n (.inr (E, M')) := J.vthrows (as := []) hC hc hd hM hcl rfl hw htab hf hr
theorem J.s1i {index : Nat} {a1 : Value} {v : Value} {rest : List Value} {M' : List va_E} (hC : Con l I' [a1] M (.inl (some v, M'))) (hc : CallS I I' index 1) (hd : decode I.cc pc = .ok (.invokestatic index, 3)) (hL : M'.length = M.length) (kk : J l I (pc + 3) lv (v :: rest) M' (k + I'.mc) (n + I'.ms) out) (hw : wsum rest ≤ 8 := by exact Nat.le_of_ble_eq_true rfl) (hf : k + I'.mc ≤ I.rm.cells ∧ n + I'.ms ≤ I.rm.slots := by exact ⟨by decide, by decide⟩) : J l I pc lv (a1 :: rest) M k n out := J.invokestatic (as := [a1]) hC hc hd rfl hw hf (Or.inl hL) kk
theorem J.n1i {index : Nat} {host : String} {a1 : Value} {v : Value} {rest : List Value} {M' : List va_E} (hC : Con l I' [a1] M (.inl (some v, M'))) (hc : CallSN I I' index 1 host) (hd : decode I.cc pc = .ok (.invokestatic index, 3)) (hL : M'.length = M.length) (kk : J l I (pc + 3) lv (v :: rest) M' (k + I'.mc) (n + I'.ms) out) (hw : wsum rest ≤ 8 := by exact Nat.le_of_ble_eq_true rfl) (hf : k + I'.mc ≤ I.rm.cells ∧ n + I'.ms ≤ I.rm.slots := by exact ⟨by decide, by decide⟩) : J l I pc lv (a1 :: rest) M k n out := J.invokestaticN (as := [a1]) hC hc hd rfl hw hf (Or.inl hL) kk
theorem J.v1i {index b ci : Nat} {fs : List Value} {C : String} {T : u_T} {N : Nat} {a1 : Value} {v : Value} {rest : List Value} {M' : List va_E} (hC : Con l I' (.ref b :: [a1]) M (.inl (some v, M'))) (hc : CallV I I' C index 1) (hd : decode I.cc pc = .ok (.invokevirtual index, 3)) (hM : M[b]? = some (.inr (ci, fs))) (hcl : vwCl[ci]? = some (C, T, N)) (hL : M'.length = M.length) (kk : J l I (pc + 3) lv (v :: rest) M' (k + I'.mc) (n + I'.ms) out) (hw : wsum rest ≤ 8 := by exact Nat.le_of_ble_eq_true rfl) (hf : k + I'.mc ≤ I.rm.cells ∧ n + I'.ms ≤ I.rm.slots := by exact ⟨by decide, by decide⟩) : J l I pc lv (a1 :: .ref b :: rest) M k n out := J.invokevirtual (as := [a1]) hC hc hd hM hcl rfl hw hf (Or.inl hL) kk
theorem J.s1v {index : Nat} {a1 : Value} {rest : List Value} {M' : List va_E} (hC : Con l I' [a1] M (.inl (none, M'))) (hc : CallS I I' index 1) (hd : decode I.cc pc = .ok (.invokestatic index, 3)) (hL : M'.length = M.length) (kk : J l I (pc + 3) lv (rest) M' (k + I'.mc) (n + I'.ms) out) (hw : wsum rest ≤ 8 := by exact Nat.le_of_ble_eq_true rfl) (hf : k + I'.mc ≤ I.rm.cells ∧ n + I'.ms ≤ I.rm.slots := by exact ⟨by decide, by decide⟩) : J l I pc lv (a1 :: rest) M k n out := J.invokestatic (as := [a1]) hC hc hd rfl hw hf (Or.inl hL) kk
theorem J.n1v {index : Nat} {host : String} {a1 : Value} {rest : List Value} {M' : List va_E} (hC : Con l I' [a1] M (.inl (none, M'))) (hc : CallSN I I' index 1 host) (hd : decode I.cc pc = .ok (.invokestatic index, 3)) (hL : M'.length = M.length) (kk : J l I (pc + 3) lv (rest) M' (k + I'.mc) (n + I'.ms) out) (hw : wsum rest ≤ 8 := by exact Nat.le_of_ble_eq_true rfl) (hf : k + I'.mc ≤ I.rm.cells ∧ n + I'.ms ≤ I.rm.slots := by exact ⟨by decide, by decide⟩) : J l I pc lv (a1 :: rest) M k n out := J.invokestaticN (as := [a1]) hC hc hd rfl hw hf (Or.inl hL) kk
theorem J.v1v {index b ci : Nat} {fs : List Value} {C : String} {T : u_T} {N : Nat} {a1 : Value} {rest : List Value} {M' : List va_E} (hC : Con l I' (.ref b :: [a1]) M (.inl (none, M'))) (hc : CallV I I' C index 1) (hd : decode I.cc pc = .ok (.invokevirtual index, 3)) (hM : M[b]? = some (.inr (ci, fs))) (hcl : vwCl[ci]? = some (C, T, N)) (hL : M'.length = M.length) (kk : J l I (pc + 3) lv (rest) M' (k + I'.mc) (n + I'.ms) out) (hw : wsum rest ≤ 8 := by exact Nat.le_of_ble_eq_true rfl) (hf : k + I'.mc ≤ I.rm.cells ∧ n + I'.ms ≤ I.rm.slots := by exact ⟨by decide, by decide⟩) : J l I pc lv (a1 :: .ref b :: rest) M k n out := J.invokevirtual (as := [a1]) hC hc hd hM hcl rfl hw hf (Or.inl hL) kk
theorem J.t1 {index b ci : Nat} {fs : List Value} {C : String} {T : u_T} {N : Nat} {a1 : Value} {rest : List Value} {E : String} {M' : List va_E} (hC : Con l I' (.ref b :: [a1]) M (.inr (E, M'))) (hc : CallV I I' C index 1) (hd : decode I.cc pc = .ok (.invokevirtual index, 3)) (hM : M[b]? = some (.inr (ci, fs))) (hcl : vwCl[ci]? = some (C, T, N)) (hw : wsum rest ≤ 8 := by exact Nat.le_of_ble_eq_true rfl) (htab : I.tab = [] := by rfl) (hf : k + I'.mc ≤ I.mc ∧ n + I'.ms ≤ I.ms := by exact ⟨by decide, by decide⟩) (hr : I.mc ≤ I.rm.cells ∧ I.ms ≤ I.rm.slots := by exact ⟨by decide, by decide⟩) : J l I pc lv (a1 :: .ref b :: rest) M k n (.inr (E, M')) := J.vthrows (as := [a1]) hC hc hd hM hcl rfl hw htab hf hr
theorem J.s2i {index : Nat} {a1 a2 : Value} {v : Value} {rest : List Value} {M' : List va_E} (hC : Con l I' [a1, a2] M (.inl (some v, M'))) (hc : CallS I I' index 2) (hd : decode I.cc pc = .ok (.invokestatic index, 3)) (hL : M'.length = M.length) (kk : J l I (pc + 3) lv (v :: rest) M' (k + I'.mc) (n + I'.ms) out) (hw : wsum rest ≤ 8 := by exact Nat.le_of_ble_eq_true rfl) (hf : k + I'.mc ≤ I.rm.cells ∧ n + I'.ms ≤ I.rm.slots := by exact ⟨by decide, by decide⟩) : J l I pc lv (a2 :: a1 :: rest) M k n out := J.invokestatic (as := [a1, a2]) hC hc hd rfl hw hf (Or.inl hL) kk
theorem J.n2i {index : Nat} {host : String} {a1 a2 : Value} {v : Value} {rest : List Value} {M' : List va_E} (hC : Con l I' [a1, a2] M (.inl (some v, M'))) (hc : CallSN I I' index 2 host) (hd : decode I.cc pc = .ok (.invokestatic index, 3)) (hL : M'.length = M.length) (kk : J l I (pc + 3) lv (v :: rest) M' (k + I'.mc) (n + I'.ms) out) (hw : wsum rest ≤ 8 := by exact Nat.le_of_ble_eq_true rfl) (hf : k + I'.mc ≤ I.rm.cells ∧ n + I'.ms ≤ I.rm.slots := by exact ⟨by decide, by decide⟩) : J l I pc lv (a2 :: a1 :: rest) M k n out := J.invokestaticN (as := [a1, a2]) hC hc hd rfl hw hf (Or.inl hL) kk
theorem J.v2i {index b ci : Nat} {fs : List Value} {C : String} {T : u_T} {N : Nat} {a1 a2 : Value} {v : Value} {rest : List Value} {M' : List va_E} (hC : Con l I' (.ref b :: [a1, a2]) M (.inl (some v, M'))) (hc : CallV I I' C index 2) (hd : decode I.cc pc = .ok (.invokevirtual index, 3)) (hM : M[b]? = some (.inr (ci, fs))) (hcl : vwCl[ci]? = some (C, T, N)) (hL : M'.length = M.length) (kk : J l I (pc + 3) lv (v :: rest) M' (k + I'.mc) (n + I'.ms) out) (hw : wsum rest ≤ 8 := by exact Nat.le_of_ble_eq_true rfl) (hf : k + I'.mc ≤ I.rm.cells ∧ n + I'.ms ≤ I.rm.slots := by exact ⟨by decide, by decide⟩) : J l I pc lv (a2 :: a1 :: .ref b :: rest) M k n out := J.invokevirtual (as := [a1, a2]) hC hc hd hM hcl rfl hw hf (Or.inl hL) kk
theorem J.s2v {index : Nat} {a1 a2 : Value} {rest : List Value} {M' : List va_E} (hC : Con l I' [a1, a2] M (.inl (none, M'))) (hc : CallS I I' index 2) (hd : decode I.cc pc = .ok (.invokestatic index, 3)) (hL : M'.length = M.length) (kk : J l I (pc + 3) lv (rest) M' (k + I'.mc) (n + I'.ms) out) (hw : wsum rest ≤ 8 := by exact Nat.le_of_ble_eq_true rfl) (hf : k + I'.mc ≤ I.rm.cells ∧ n + I'.ms ≤ I.rm.slots := by exact ⟨by decide, by decide⟩) : J l I pc lv (a2 :: a1 :: rest) M k n out := J.invokestatic (as := [a1, a2]) hC hc hd rfl hw hf (Or.inl hL) kk
theorem J.n2v {index : Nat} {host : String} {a1 a2 : Value} {rest : List Value} {M' : List va_E} (hC : Con l I' [a1, a2] M (.inl (none, M'))) (hc : CallSN I I' index 2 host) (hd : decode I.cc pc = .ok (.invokestatic index, 3)) (hL : M'.length = M.length) (kk : J l I (pc + 3) lv (rest) M' (k + I'.mc) (n + I'.ms) out) (hw : wsum rest ≤ 8 := by exact Nat.le_of_ble_eq_true rfl) (hf : k + I'.mc ≤ I.rm.cells ∧ n + I'.ms ≤ I.rm.slots := by exact ⟨by decide, by decide⟩) : J l I pc lv (a2 :: a1 :: rest) M k n out := J.invokestaticN (as := [a1, a2]) hC hc hd rfl hw hf (Or.inl hL) kk
theorem J.v2v {index b ci : Nat} {fs : List Value} {C : String} {T : u_T} {N : Nat} {a1 a2 : Value} {rest : List Value} {M' : List va_E} (hC : Con l I' (.ref b :: [a1, a2]) M (.inl (none, M'))) (hc : CallV I I' C index 2) (hd : decode I.cc pc = .ok (.invokevirtual index, 3)) (hM : M[b]? = some (.inr (ci, fs))) (hcl : vwCl[ci]? = some (C, T, N)) (hL : M'.length = M.length) (kk : J l I (pc + 3) lv (rest) M' (k + I'.mc) (n + I'.ms) out) (hw : wsum rest ≤ 8 := by exact Nat.le_of_ble_eq_true rfl) (hf : k + I'.mc ≤ I.rm.cells ∧ n + I'.ms ≤ I.rm.slots := by exact ⟨by decide, by decide⟩) : J l I pc lv (a2 :: a1 :: .ref b :: rest) M k n out := J.invokevirtual (as := [a1, a2]) hC hc hd hM hcl rfl hw hf (Or.inl hL) kk
theorem J.t2 {index b ci : Nat} {fs : List Value} {C : String} {T : u_T} {N : Nat} {a1 a2 : Value} {rest : List Value} {E : String} {M' : List va_E} (hC : Con l I' (.ref b :: [a1, a2]) M (.inr (E, M'))) (hc : CallV I I' C index 2) (hd : decode I.cc pc = .ok (.invokevirtual index, 3)) (hM : M[b]? = some (.inr (ci, fs))) (hcl : vwCl[ci]? = some (C, T, N)) (hw : wsum rest ≤ 8 := by exact Nat.le_of_ble_eq_true rfl) (htab : I.tab = [] := by rfl) (hf : k + I'.mc ≤ I.mc ∧ n + I'.ms ≤ I.ms := by exact ⟨by decide, by decide⟩) (hr : I.mc ≤ I.rm.cells ∧ I.ms ≤ I.rm.slots := by exact ⟨by decide, by decide⟩) : J l I pc lv (a2 :: a1 :: .ref b :: rest) M k n (.inr (E, M')) := J.vthrows (as := [a1, a2]) hC hc hd hM hcl rfl hw htab hf hr
theorem J.s3i {index : Nat} {a1 a2 a3 : Value} {v : Value} {rest : List Value} {M' : List va_E} (hC : Con l I' [a1, a2, a3] M (.inl (some v, M'))) (hc : CallS I I' index 3) (hd : decode I.cc pc = .ok (.invokestatic index, 3)) (hL : M'.length = M.length) (kk : J l I (pc + 3) lv (v :: rest) M' (k + I'.mc) (n + I'.ms) out) (hw : wsum rest ≤ 8 := by exact Nat.le_of_ble_eq_true rfl) (hf : k + I'.mc ≤ I.rm.cells ∧ n + I'.ms ≤ I.rm.slots := by exact ⟨by decide, by decide⟩) : J l I pc lv (a3 :: a2 :: a1 :: rest) M k n out := J.invokestatic (as := [a1, a2, a3]) hC hc hd rfl hw hf (Or.inl hL) kk
theorem J.n3i {index : Nat} {host : String} {a1 a2 a3 : Value} {v : Value} {rest : List Value} {M' : List va_E} (hC : Con l I' [a1, a2, a3] M (.inl (some v, M'))) (hc : CallSN I I' index 3 host) (hd : decode I.cc pc = .ok (.invokestatic index, 3)) (hL : M'.length = M.length) (kk : J l I (pc + 3) lv (v :: rest) M' (k + I'.mc) (n + I'.ms) out) (hw : wsum rest ≤ 8 := by exact Nat.le_of_ble_eq_true rfl) (hf : k + I'.mc ≤ I.rm.cells ∧ n + I'.ms ≤ I.rm.slots := by exact ⟨by decide, by decide⟩) : J l I pc lv (a3 :: a2 :: a1 :: rest) M k n out := J.invokestaticN (as := [a1, a2, a3]) hC hc hd rfl hw hf (Or.inl hL) kk
theorem J.v3i {index b ci : Nat} {fs : List Value} {C : String} {T : u_T} {N : Nat} {a1 a2 a3 : Value} {v : Value} {rest : List Value} {M' : List va_E} (hC : Con l I' (.ref b :: [a1, a2, a3]) M (.inl (some v, M'))) (hc : CallV I I' C index 3) (hd : decode I.cc pc = .ok (.invokevirtual index, 3)) (hM : M[b]? = some (.inr (ci, fs))) (hcl : vwCl[ci]? = some (C, T, N)) (hL : M'.length = M.length) (kk : J l I (pc + 3) lv (v :: rest) M' (k + I'.mc) (n + I'.ms) out) (hw : wsum rest ≤ 8 := by exact Nat.le_of_ble_eq_true rfl) (hf : k + I'.mc ≤ I.rm.cells ∧ n + I'.ms ≤ I.rm.slots := by exact ⟨by decide, by decide⟩) : J l I pc lv (a3 :: a2 :: a1 :: .ref b :: rest) M k n out := J.invokevirtual (as := [a1, a2, a3]) hC hc hd hM hcl rfl hw hf (Or.inl hL) kk
theorem J.s3v {index : Nat} {a1 a2 a3 : Value} {rest : List Value} {M' : List va_E} (hC : Con l I' [a1, a2, a3] M (.inl (none, M'))) (hc : CallS I I' index 3) (hd : decode I.cc pc = .ok (.invokestatic index, 3)) (hL : M'.length = M.length) (kk : J l I (pc + 3) lv (rest) M' (k + I'.mc) (n + I'.ms) out) (hw : wsum rest ≤ 8 := by exact Nat.le_of_ble_eq_true rfl) (hf : k + I'.mc ≤ I.rm.cells ∧ n + I'.ms ≤ I.rm.slots := by exact ⟨by decide, by decide⟩) : J l I pc lv (a3 :: a2 :: a1 :: rest) M k n out := J.invokestatic (as := [a1, a2, a3]) hC hc hd rfl hw hf (Or.inl hL) kk
theorem J.n3v {index : Nat} {host : String} {a1 a2 a3 : Value} {rest : List Value} {M' : List va_E} (hC : Con l I' [a1, a2, a3] M (.inl (none, M'))) (hc : CallSN I I' index 3 host) (hd : decode I.cc pc = .ok (.invokestatic index, 3)) (hL : M'.length = M.length) (kk : J l I (pc + 3) lv (rest) M' (k + I'.mc) (n + I'.ms) out) (hw : wsum rest ≤ 8 := by exact Nat.le_of_ble_eq_true rfl) (hf : k + I'.mc ≤ I.rm.cells ∧ n + I'.ms ≤ I.rm.slots := by exact ⟨by decide, by decide⟩) : J l I pc lv (a3 :: a2 :: a1 :: rest) M k n out := J.invokestaticN (as := [a1, a2, a3]) hC hc hd rfl hw hf (Or.inl hL) kk
theorem J.v3v {index b ci : Nat} {fs : List Value} {C : String} {T : u_T} {N : Nat} {a1 a2 a3 : Value} {rest : List Value} {M' : List va_E} (hC : Con l I' (.ref b :: [a1, a2, a3]) M (.inl (none, M'))) (hc : CallV I I' C index 3) (hd : decode I.cc pc = .ok (.invokevirtual index, 3)) (hM : M[b]? = some (.inr (ci, fs))) (hcl : vwCl[ci]? = some (C, T, N)) (hL : M'.length = M.length) (kk : J l I (pc + 3) lv (rest) M' (k + I'.mc) (n + I'.ms) out) (hw : wsum rest ≤ 8 := by exact Nat.le_of_ble_eq_true rfl) (hf : k + I'.mc ≤ I.rm.cells ∧ n + I'.ms ≤ I.rm.slots := by exact ⟨by decide, by decide⟩) : J l I pc lv (a3 :: a2 :: a1 :: .ref b :: rest) M k n out := J.invokevirtual (as := [a1, a2, a3]) hC hc hd hM hcl rfl hw hf (Or.inl hL) kk
theorem J.t3 {index b ci : Nat} {fs : List Value} {C : String} {T : u_T} {N : Nat} {a1 a2 a3 : Value} {rest : List Value} {E : String} {M' : List va_E} (hC : Con l I' (.ref b :: [a1, a2, a3]) M (.inr (E, M'))) (hc : CallV I I' C index 3) (hd : decode I.cc pc = .ok (.invokevirtual index, 3)) (hM : M[b]? = some (.inr (ci, fs))) (hcl : vwCl[ci]? = some (C, T, N)) (hw : wsum rest ≤ 8 := by exact Nat.le_of_ble_eq_true rfl) (htab : I.tab = [] := by rfl) (hf : k + I'.mc ≤ I.mc ∧ n + I'.ms ≤ I.ms := by exact ⟨by decide, by decide⟩) (hr : I.mc ≤ I.rm.cells ∧ I.ms ≤ I.rm.slots := by exact ⟨by decide, by decide⟩) : J l I pc lv (a3 :: a2 :: a1 :: .ref b :: rest) M k n (.inr (E, M')) := J.vthrows (as := [a1, a2, a3]) hC hc hd hM hcl rfl hw htab hf hr
theorem J.s4i {index : Nat} {a1 a2 a3 a4 : Value} {v : Value} {rest : List Value} {M' : List va_E} (hC : Con l I' [a1, a2, a3, a4] M (.inl (some v, M'))) (hc : CallS I I' index 4) (hd : decode I.cc pc = .ok (.invokestatic index, 3)) (hL : M'.length = M.length) (kk : J l I (pc + 3) lv (v :: rest) M' (k + I'.mc) (n + I'.ms) out) (hw : wsum rest ≤ 8 := by exact Nat.le_of_ble_eq_true rfl) (hf : k + I'.mc ≤ I.rm.cells ∧ n + I'.ms ≤ I.rm.slots := by exact ⟨by decide, by decide⟩) : J l I pc lv (a4 :: a3 :: a2 :: a1 :: rest) M k n out := J.invokestatic (as := [a1, a2, a3, a4]) hC hc hd rfl hw hf (Or.inl hL) kk
theorem J.n4i {index : Nat} {host : String} {a1 a2 a3 a4 : Value} {v : Value} {rest : List Value} {M' : List va_E} (hC : Con l I' [a1, a2, a3, a4] M (.inl (some v, M'))) (hc : CallSN I I' index 4 host) (hd : decode I.cc pc = .ok (.invokestatic index, 3)) (hL : M'.length = M.length) (kk : J l I (pc + 3) lv (v :: rest) M' (k + I'.mc) (n + I'.ms) out) (hw : wsum rest ≤ 8 := by exact Nat.le_of_ble_eq_true rfl) (hf : k + I'.mc ≤ I.rm.cells ∧ n + I'.ms ≤ I.rm.slots := by exact ⟨by decide, by decide⟩) : J l I pc lv (a4 :: a3 :: a2 :: a1 :: rest) M k n out := J.invokestaticN (as := [a1, a2, a3, a4]) hC hc hd rfl hw hf (Or.inl hL) kk
theorem J.v4i {index b ci : Nat} {fs : List Value} {C : String} {T : u_T} {N : Nat} {a1 a2 a3 a4 : Value} {v : Value} {rest : List Value} {M' : List va_E} (hC : Con l I' (.ref b :: [a1, a2, a3, a4]) M (.inl (some v, M'))) (hc : CallV I I' C index 4) (hd : decode I.cc pc = .ok (.invokevirtual index, 3)) (hM : M[b]? = some (.inr (ci, fs))) (hcl : vwCl[ci]? = some (C, T, N)) (hL : M'.length = M.length) (kk : J l I (pc + 3) lv (v :: rest) M' (k + I'.mc) (n + I'.ms) out) (hw : wsum rest ≤ 8 := by exact Nat.le_of_ble_eq_true rfl) (hf : k + I'.mc ≤ I.rm.cells ∧ n + I'.ms ≤ I.rm.slots := by exact ⟨by decide, by decide⟩) : J l I pc lv (a4 :: a3 :: a2 :: a1 :: .ref b :: rest) M k n out := J.invokevirtual (as := [a1, a2, a3, a4]) hC hc hd hM hcl rfl hw hf (Or.inl hL) kk
theorem J.s4v {index : Nat} {a1 a2 a3 a4 : Value} {rest : List Value} {M' : List va_E} (hC : Con l I' [a1, a2, a3, a4] M (.inl (none, M'))) (hc : CallS I I' index 4) (hd : decode I.cc pc = .ok (.invokestatic index, 3)) (hL : M'.length = M.length) (kk : J l I (pc + 3) lv (rest) M' (k + I'.mc) (n + I'.ms) out) (hw : wsum rest ≤ 8 := by exact Nat.le_of_ble_eq_true rfl) (hf : k + I'.mc ≤ I.rm.cells ∧ n + I'.ms ≤ I.rm.slots := by exact ⟨by decide, by decide⟩) : J l I pc lv (a4 :: a3 :: a2 :: a1 :: rest) M k n out := J.invokestatic (as := [a1, a2, a3, a4]) hC hc hd rfl hw hf (Or.inl hL) kk
theorem J.n4v {index : Nat} {host : String} {a1 a2 a3 a4 : Value} {rest : List Value} {M' : List va_E} (hC : Con l I' [a1, a2, a3, a4] M (.inl (none, M'))) (hc : CallSN I I' index 4 host) (hd : decode I.cc pc = .ok (.invokestatic index, 3)) (hL : M'.length = M.length) (kk : J l I (pc + 3) lv (rest) M' (k + I'.mc) (n + I'.ms) out) (hw : wsum rest ≤ 8 := by exact Nat.le_of_ble_eq_true rfl) (hf : k + I'.mc ≤ I.rm.cells ∧ n + I'.ms ≤ I.rm.slots := by exact ⟨by decide, by decide⟩) : J l I pc lv (a4 :: a3 :: a2 :: a1 :: rest) M k n out := J.invokestaticN (as := [a1, a2, a3, a4]) hC hc hd rfl hw hf (Or.inl hL) kk
theorem J.v4v {index b ci : Nat} {fs : List Value} {C : String} {T : u_T} {N : Nat} {a1 a2 a3 a4 : Value} {rest : List Value} {M' : List va_E} (hC : Con l I' (.ref b :: [a1, a2, a3, a4]) M (.inl (none, M'))) (hc : CallV I I' C index 4) (hd : decode I.cc pc = .ok (.invokevirtual index, 3)) (hM : M[b]? = some (.inr (ci, fs))) (hcl : vwCl[ci]? = some (C, T, N)) (hL : M'.length = M.length) (kk : J l I (pc + 3) lv (rest) M' (k + I'.mc) (n + I'.ms) out) (hw : wsum rest ≤ 8 := by exact Nat.le_of_ble_eq_true rfl) (hf : k + I'.mc ≤ I.rm.cells ∧ n + I'.ms ≤ I.rm.slots := by exact ⟨by decide, by decide⟩) : J l I pc lv (a4 :: a3 :: a2 :: a1 :: .ref b :: rest) M k n out := J.invokevirtual (as := [a1, a2, a3, a4]) hC hc hd hM hcl rfl hw hf (Or.inl hL) kk
theorem J.t4 {index b ci : Nat} {fs : List Value} {C : String} {T : u_T} {N : Nat} {a1 a2 a3 a4 : Value} {rest : List Value} {E : String} {M' : List va_E} (hC : Con l I' (.ref b :: [a1, a2, a3, a4]) M (.inr (E, M'))) (hc : CallV I I' C index 4) (hd : decode I.cc pc = .ok (.invokevirtual index, 3)) (hM : M[b]? = some (.inr (ci, fs))) (hcl : vwCl[ci]? = some (C, T, N)) (hw : wsum rest ≤ 8 := by exact Nat.le_of_ble_eq_true rfl) (htab : I.tab = [] := by rfl) (hf : k + I'.mc ≤ I.mc ∧ n + I'.ms ≤ I.ms := by exact ⟨by decide, by decide⟩) (hr : I.mc ≤ I.rm.cells ∧ I.ms ≤ I.rm.slots := by exact ⟨by decide, by decide⟩) : J l I pc lv (a4 :: a3 :: a2 :: a1 :: .ref b :: rest) M k n (.inr (E, M')) := J.vthrows (as := [a1, a2, a3, a4]) hC hc hd hM hcl rfl hw htab hf hr
/-- a contract out of a walk, its side conditions by computation -/
theorem Con.of {as : List Value} (hJ : J l I 0 (lv_args 0 as) [] M 0 0 out) (hlen : (lg_sl as).length ≤ I.nL := by exact Nat.le_of_ble_eq_true rfl) (hy : plainName I.y.cls = true := by decide) (hw : I.ws = [Cond.code I.y I.cc I.nL I.ret] := by rfl) (ho : I.own = I.y.cls := by rfl) (hnm : I.nm = I.y.name := by rfl) (htab : I.tab = [] := by rfl) : Con l I as M out := Con.ofJ hy hw ho hnm htab hlen hJ
theorem pI_succ (n : Nat) : pI (n + 1) = nI n := nI_pred n
theorem pI_0 : pI 0 = -1 := by decide +kernel
theorem pI_toInt {n : Nat} (h : n < 2 ^ 30) : (pI n).toInt = (n : Int) - 1 := by
  have := pk_sub_toInt (a := n) (b := 1) h (by decide)
  exact this
theorem pI_eq {a b : Nat} (ha : a < 2 ^ 30) (hb : b < 2 ^ 30) : pI a = pI b ↔ a = b := by
  constructor
  · intro h
    have h1 := pI_toInt ha
    rw [h, pI_toInt hb] at h1
    omega
  · intro h; rw [h]
theorem J.icmp_eqP {a b : Nat} {off : Int} {tgt : Nat} {r : List Value} (hd : decode I.cc pc = .ok (.if_icmp .eq off, 3)) (ht : (pc : Int) + off = (tgt : Int)) (ha : a < 2 ^ 30) (hb : b < 2 ^ 30) (kt : a = b → J l I tgt lv r M k n out) (kf : a ≠ b → J l I (pc + 3) lv r M k n out) : J l I pc lv (.int (pI b) :: .int (pI a) :: r) M k n out :=
  J.icmp_eq hd ht (fun h => kt ((pI_eq ha hb).mp h)) (fun h => kf (fun q => h (q ▸ rfl)))
theorem J.icmp_neP {a b : Nat} {off : Int} {tgt : Nat} {r : List Value} (hd : decode I.cc pc = .ok (.if_icmp .ne off, 3)) (ht : (pc : Int) + off = (tgt : Int)) (ha : a < 2 ^ 30) (hb : b < 2 ^ 30) (kt : a ≠ b → J l I tgt lv r M k n out) (kf : a = b → J l I (pc + 3) lv r M k n out) : J l I pc lv (.int (pI b) :: .int (pI a) :: r) M k n out :=
  J.icmp_ne hd ht (fun h => kt (fun q => h (q ▸ rfl))) (fun h => kf ((pI_eq ha hb).mp h))
theorem J.if_ltP {a : Nat} {off : Int} {tgt : Nat} {r : List Value} (hd : decode I.cc pc = .ok (.ifCond .lt off, 3)) (ht : (pc : Int) + off = (tgt : Int)) (ha : a < 2 ^ 30) (kt : a = 0 → J l I tgt lv r M k n out) (kf : 0 < a → J l I (pc + 3) lv r M k n out) : J l I pc lv (.int (pI a) :: r) M k n out :=
  J.if_lt hd ht (fun h => kt (by have := Int32.lt_iff_toInt_lt.mp h; rw [pI_toInt ha, Int32.toInt_zero] at this; omega)) (fun h => kf (by
    rcases Nat.eq_zero_or_pos a with e | e
    · exact absurd (by rw [e]; decide +kernel) h
    · exact e))
theorem J.if_geP {a : Nat} {off : Int} {tgt : Nat} {r : List Value} (hd : decode I.cc pc = .ok (.ifCond .ge off, 3)) (ht : (pc : Int) + off = (tgt : Int)) (ha : a < 2 ^ 30) (kt : 0 < a → J l I tgt lv r M k n out) (kf : a = 0 → J l I (pc + 3) lv r M k n out) : J l I pc lv (.int (pI a) :: r) M k n out :=
  J.if_ge hd ht (fun h => kt (by
    rcases Nat.eq_zero_or_pos a with e | e
    · rw [e] at h; exact absurd h (by decide +kernel)
    · exact e)) (fun h => kf (by
    rcases Nat.eq_zero_or_pos a with e | e
    · exact e
    · refine absurd ?_ h
      rw [Int32.le_iff_toInt_le, pI_toInt ha, Int32.toInt_zero]; omega))
end ARITY
end
section
/-! The class's memory: fifteen cells ahead of whatever comes behind -/
/-- the factors: shard h is the sum of the data by these -/
def fac (K : Nat) (i : Nat) : Nat := if i / K < K then (if i / K = i % K then 1 else 0) else gi ((i / K) ^^^ (i % K))
def CM (K Mo : Nat) (dr : Nat → Nat) (dl : Nat) (ou : Nat → Nat) (ol : Nat) (da eq al fr tk by_ ln pl : Nat → Nat) (X : List va_E) : List va_E :=
  .inr (0, [.ref 1, .ref 5, .ref 10, .ref 13, .int (nI dl), .ref 14, .int (nI ol)]) ::
  .inr (1, [.int (nI K), .int (nI (K + Mo)), .int (nI (4 * K)), .ref 2, .ref 4, .ref 3]) ::
  aI (4 * K) da :: aI (K * K) eq :: aI ((K + Mo) * K) (fac K) ::
  .inr (2, [.ref 6, .ref 7, .ref 8, .ref 9]) ::
  aZ 8 al :: aI 8 fr :: aZ 128 tk :: aI 512 by_ ::
  .inr (3, [.int (nI (K + Mo)), .int (nI (4 * K)), .ref 11, .ref 12]) ::
  aI 6 ln :: aP 336 pl :: aI 32 dr :: aI 32 ou :: X
end
section
/-! Copies, Math, objects made -/
section MORE
variable {l : Launch} {I : MI} {pc : Nat} {lv : List (Nat × Value)} {st : List Value} {M : List va_E} {k n : Nat} {out : Out}
theorem cpy_nI (f g : Nat → Nat) (sp dp c : Nat) : va_cpy (fun j => nI (f j)) (fun j => nI (g j)) sp dp c = fun j => nI (va_cpy f g sp dp c j) := by
  funext j; unfold va_cpy; split <;> rfl
theorem Cx.hml {D : va_G} {cA ad : Nat → Nat} {p : Program} {s : State} {m : MethodId} {args : Array Value} {meth : Method} {c : Code} {A : Nat → Prop} {locs : List Loc} {H : Heap} {ls : Array Slot} (h : Cx I D cA ad p s m args meth c A locs H ls lv M) : c.maxLocals = ls.size := h.2.2.1.trans h.hl.1.symm
theorem J.copyN {index q0 q1 n0 n1 sp dp cnt : Nat} {f g : Nat → Nat} {rest : List Value} (hd : decode I.cc pc = .ok (.invokestatic index, 3)) (hl : Cond.methodLink I.own index arraycopyName ∈ lw_tbl) (hnt : Cond.native arraycopyName ∈ lw_tbl) (hs : Cond.static arraycopyName ∈ lw_tbl) (hi : Cond.initialized "java/lang/System" ∈ lw_tbl)
    (h0 : M[q0]? = some (aI n0 f)) (h1 : M[q1]? = some (aI n1 g)) (b1 : sp + cnt ≤ n0) (b2 : dp + cnt ≤ n1) (hb0 : n0 < 2 ^ 31) (hb1 : n1 < 2 ^ 31) (hfr : 1 ≤ I.rm.frames) (hlo : wsum rest + (nativeFrameWords "java/lang/System" "arraycopy" 5 + 11) ≤ I.rm.locals)
    (kk : J l I (pc + 3) lv rest (M.set q1 (aI n1 (va_cpy f g sp dp cnt))) k n out) : J l I pc lv (.int (nI cnt) :: .int (nI dp) :: .ref q1 :: .int (nI sp) :: .ref q0 :: rest) M k n out := by
  intro D cA ad p e s m args below meth c A locs H ls h
  have c1 : (nI sp).toNatClampNeg = sp := nI_clamp (by omega)
  have c2 : (nI dp).toNatClampNeg = dp := nI_clamp (by omega)
  have c3 : (nI cnt).toNatClampNeg = cnt := nI_clamp (by omega)
  refine va_copyi h.hx h.hb h.hml h.ho (h.hw.at hl rfl args) (h.hw.at hnt rfl args) (h.hw.at hs rfl args) (h.hw.at hi rfl args) h.hK h.hP h.hD h.hS q0 q1 0 0 (ty := .int) (pw_at h0) (pw_at h1) rfl rfl rfl (nI_pos (by omega)) (nI_pos (by omega)) (nI_pos (by omega)) (by rw [c1, c3]; exact b1) (by rw [c2, c3]; exact b2) (fun _ _ => rfl) hfr (by rw [wsum_pv]; exact hlo) hd (fun H1 locs1 hP hD hS => ?_)
  have e1 := pw_set (ad := ad) (cA := cA) (M := M) (k := q1) (e := aI n1 (va_cpy f g sp dp cnt))
  rw [c1, c2, c3, cpy_nI] at hP hD
  have := kk D cA ad p e s m args below meth c A locs1 H1 ls (h.hp (e1 ▸ hP) (e1 ▸ hD) hS)
  rw [jq_len] at this
  exact this
theorem J.mmax {index : Nat} {x y : Int32} {rest : List Value} (hd : decode I.cc pc = .ok (.invokestatic index, 3)) (hl : Cond.methodLink I.own index Lib.Math.max.name ∈ lw_tbl) (hs : Cond.static Lib.Math.max.name ∈ lw_tbl) (hi : Cond.initialized "java/lang/Math" ∈ lw_tbl) (hc : Cond.code Lib.Math.max.name Lib.Math.max.code 2 (some .int) ∈ lw_tbl)
    (hfr : 1 ≤ I.rm.frames) (hlo : wsum rest + 13 ≤ I.rm.locals) (hk : k ≤ I.rm.cells) (hn : n ≤ I.rm.slots) (kk : J l I (pc + 3) lv (.int (if x < y then y else x) :: rest) M k n out) : J l I pc lv (.int y :: .int x :: rest) M k n out :=
  fun D cA ad p e s m args below meth c A locs H ls h => va_mmax h.hx h.hb h.hml h.ho (h.hw.at hl rfl args) (h.hw.at hs rfl args) (h.hw.at hi rfl args) (h.hw.at hc rfl args) hfr (by rw [wsum_pv]; exact hlo) hk hn hd (kk D cA ad p e s m args below meth c A locs H ls h)
theorem J.mmin {index : Nat} {x y : Int32} {rest : List Value} (hd : decode I.cc pc = .ok (.invokestatic index, 3)) (hl : Cond.methodLink I.own index Lib.Math.min.name ∈ lw_tbl) (hs : Cond.static Lib.Math.min.name ∈ lw_tbl) (hi : Cond.initialized "java/lang/Math" ∈ lw_tbl) (hc : Cond.code Lib.Math.min.name Lib.Math.min.code 2 (some .int) ∈ lw_tbl)
    (hfr : 1 ≤ I.rm.frames) (hlo : wsum rest + 13 ≤ I.rm.locals) (hk : k ≤ I.rm.cells) (hn : n ≤ I.rm.slots) (kk : J l I (pc + 3) lv (.int (if y < x then y else x) :: rest) M k n out) : J l I pc lv (.int y :: .int x :: rest) M k n out :=
  fun D cA ad p e s m args below meth c A locs H ls h => va_mmin h.hx h.hb h.hml h.ho (h.hw.at hl rfl args) (h.hw.at hs rfl args) (h.hw.at hi rfl args) (h.hw.at hc rfl args) hfr (by rw [wsum_pv]; exact hlo) hk hn hd (kk D cA ad p e s m args below meth c A locs H ls h)
/-- fewer locals -/
theorem J.sub {lv' : List (Nat × Value)} (is : List Nat) (kk : J l I pc lv' st M k n out) (hs : is.filterMap (fun i => lv[i]?) = lv' := by rfl) : J l I pc lv st M k n out := by
  intro D cA ad p e s m args below meth c A locs H ls h
  refine kk D cA ad p e s m args below meth c A locs H ls (h.lv' ⟨h.hl.1, h.hl.2.1, fun q hq => h.hl.2.2 q ?_⟩)
  obtain ⟨q0, hq0, rfl⟩ := List.mem_map.mp hq
  subst hs
  obtain ⟨i, -, hi⟩ := List.mem_filterMap.mp hq0
  exact List.mem_map.mpr ⟨q0, List.mem_of_getElem? hi, rfl⟩
end MORE
theorem cp_n : Cond.native arraycopyName ∈ lw_tbl := by decide +kernel
theorem cp_s : Cond.static arraycopyName ∈ lw_tbl := by decide +kernel
theorem cp_i : Cond.initialized "java/lang/System" ∈ lw_tbl := by decide +kernel
end
section
/-! The class's and the reference's arithmetic -/
section FIELD
variable {l : Launch}
theorem and1 (x : Nat) : x &&& 1 = x % 2 := Nat.and_one_is_mod x
theorem div2p (b i : Nat) : b / 2 ^ i / 2 = b / 2 ^ (i + 1) := by rw [Nat.div_div_eq_div_mul, Nat.pow_succ]
theorem div2l {b i : Nat} (h : b < 256) : b / 2 ^ i < 256 := Nat.lt_of_le_of_lt (Nat.div_le_self _ _) h
set_option maxRecDepth 100000 in
set_option maxHeartbeats 4000000 in
theorem lp_V_times (a b : Nat) (hb : b < 256) (M : List va_E) : ∀ (j i s d : Nat), i + j = 8 → s < 256 → d < 256 →
    J l i_V_times 7 [(0, .int (nI a)), (1, .int (nI b)), (2, .int (nI s)), (3, .int (nI d)), (4, .int (nI i))] [] M 0 0 (.inl (some (.int (nI (gL j (b / 2 ^ i) s d))), M))
  | 0, i, s, d, hi, hs, hd => by
    refine J.iload d_V_times_7 rfl ?_
    refine J.bipush d_V_times_9 (v := nI 8) (by decide) ?_
    refine J.icmp_geN d_V_times_11 (tgt := 51) (by decide) (by omega) (by omega) (fun h => ?_) (fun h => ?_)
    · refine J.iload_n d_V_times_51 rfl rfl ?_
      exact J.ireturn d_V_times_52 rfl (by decide) (by decide)
    · omega
  | j + 1, i, s, d, hi, hs, hd => by
    refine J.iload d_V_times_7 rfl ?_
    refine J.bipush d_V_times_9 (v := nI 8) (by decide) ?_
    refine J.icmp_geN d_V_times_11 (tgt := 51) (by decide) (by omega) (by omega) (fun h => ?_) (fun h => ?_)
    · omega
    have hx := div2l (i := i) hb
    have back : ∀ s', s' < 256 → s' = (if b / 2 ^ i % 2 = 1 then s ^^^ d else s) → J l i_V_times 28 [(0, .int (nI a)), (1, .int (nI b)), (2, .int (nI s')), (3, .int (nI d)), (4, .int (nI i))] [] M 0 0 (.inl (some (.int (nI (gL (j + 1) (b / 2 ^ i) s d))), M)) := by
      intro s' hs' e'
      unfold gL
      rw [← e', div2p]
      have hg := gd_lt hd
      refine J.iload_n d_V_times_28 rfl rfl ?_
      refine J.iconst d_V_times_29 (v := nI 2) (by decide) ?_
      refine J.imulN d_V_times_30 ?_
      refine J.istore_n d_V_times_31 rfl (by decide) rfl ?_
      refine J.iload_n d_V_times_32 rfl rfl ?_
      refine J.sipush d_V_times_33 (v := nI 256) (by decide) ?_
      refine J.icmp_ltN d_V_times_36 (tgt := 45) (by decide) (by omega) (by omega) (fun h2 => ?_) (fun h2 => ?_)
      · have e2 : gd d = d * 2 := by unfold gd; rw [if_neg (by omega)]; omega
        rw [e2] at hg ⊢
        refine J.iincN d_V_times_45 rfl rfl (by decide) rfl ?_
        refine J.goto d_V_times_48 (tgt := 7) (by decide) ?_
        exact lp_V_times a b hb M j (i + 1) s' (d * 2) (by omega) hs' hg
      · have e2 : gd d = (d * 2) ^^^ 285 := by unfold gd; rw [if_pos (by omega), Nat.mul_comm]
        rw [e2] at hg ⊢
        refine J.iload_n d_V_times_39 rfl rfl ?_
        refine J.sipush d_V_times_40 (v := nI 285) (by decide) ?_
        refine J.ixorN d_V_times_43 ?_
        refine J.istore_n d_V_times_44 rfl (by decide) rfl ?_
        refine J.iincN d_V_times_45 rfl rfl (by decide) rfl ?_
        refine J.goto d_V_times_48 (tgt := 7) (by decide) ?_
        exact lp_V_times a b hb M j (i + 1) s' ((d * 2) ^^^ 285) (by omega) hs' hg
    refine J.iload_n d_V_times_14 rfl rfl ?_
    refine J.iload d_V_times_15 rfl ?_
    refine J.ishrN d_V_times_17 (by omega) (by omega) ?_
    refine J.iconst d_V_times_18 (v := nI 1) (by decide) ?_
    refine J.iandN d_V_times_19 ?_
    rw [and1]
    refine J.iconst d_V_times_20 (v := nI 1) (by decide) ?_
    refine J.icmp_neN d_V_times_21 (tgt := 28) (by decide) (by omega) (by omega) (fun h1 => ?_) (fun h1 => ?_)
    · exact back s hs (by rw [if_neg h1])
    · refine J.iload_n d_V_times_24 rfl rfl ?_
      refine J.iload_n d_V_times_25 rfl rfl ?_
      refine J.ixorN d_V_times_26 ?_
      refine J.istore_n d_V_times_27 rfl (by decide) rfl ?_
      exact back (s ^^^ d) (xor_lt hs hd) (by rw [if_pos h1])
theorem con_V_times {a b : Nat} (ha : a < 256) (hb : b < 256) (M : List va_E) : Con l i_V_times [.int (nI a), .int (nI b)] M (.inl (some (.int (nI (gm a b))), M)) := by
  refine Con.ofJ (by decide) rfl rfl rfl rfl (Nat.le_of_ble_eq_true rfl) ?_
  show J l i_V_times 0 [(0, .int (nI a)), (1, .int (nI b))] [] M 0 0 _
  refine J.iconst d_V_times_0 (v := nI 0) (by decide) ?_
  refine J.istore_n d_V_times_1 rfl (by decide) rfl ?_
  refine J.iload_n d_V_times_2 rfl rfl ?_
  refine J.istore_n d_V_times_3 rfl (by decide) rfl ?_
  refine J.iconst d_V_times_4 (v := nI 0) (by decide) ?_
  refine J.istore d_V_times_5 (by decide) rfl ?_
  have := lp_V_times (l := l) a b hb M 8 0 0 a rfl (by decide) ha
  rw [Nat.pow_zero, Nat.div_one] at this
  exact this
end FIELD
end
section
/-! The catalogue's and the disks' small methods -/
section LEAVES
variable {l : Launch} {K Mo dl ol : Nat} {dr ou da eq al fr tk by_ ln pl : Nat → Nat} {X : List va_E}
theorem con_V_placeAt (d s : Nat) (M : List va_E) : Con l i_V_placeAt [.int (nI d), .int (nI s)] M (.inl (some (.int (nI (16 * d + s))), M)) := by
  refine Con.of ?_
  refine J.bipush d_V_placeAt_0 (v := nI 16) (by decide) ?_
  refine J.iload_n d_V_placeAt_2 rfl rfl ?_
  refine J.imulN d_V_placeAt_3 ?_
  refine J.iload_n d_V_placeAt_4 rfl rfl ?_
  refine J.iaddN d_V_placeAt_5 ?_
  exact J.ireturn d_V_placeAt_6 rfl (by decide) (by decide)
theorem con_D_isAlive {d : Nat} (hd : d < 8) (h2 : al d < 2) : Con l i_D_isAlive [.ref 5, .int (nI d)] (CM K Mo dr dl ou ol da eq al fr tk by_ ln pl X) (.inl (some (.int (nI (al d))), (CM K Mo dr dl ou ol da eq al fr tk by_ ln pl X))) := by
  refine Con.of ?_
  refine J.aload_n d_D_isAlive_0 rfl rfl ?_
  refine J.getfield d_D_isAlive_1 fl_D_9 rfl rfl ?_
  refine J.iload_n d_D_isAlive_4 rfl rfl ?_
  refine J.baloadN d_D_isAlive_5 rfl (by omega) (by omega) ?_
  first | exact J.zreturn d_D_isAlive_6 rfl rfl (by decide) (by decide) | exact J.zreturnN d_D_isAlive_6 rfl (by omega) (by decide) (by decide)
theorem con_D_freeSlotsOf {d : Nat} (hd : d < 8) : Con l i_D_freeSlotsOf [.ref 5, .int (nI d)] (CM K Mo dr dl ou ol da eq al fr tk by_ ln pl X) (.inl (some (.int (nI (fr d))), (CM K Mo dr dl ou ol da eq al fr tk by_ ln pl X))) := by
  refine Con.of ?_
  refine J.aload_n d_D_freeSlotsOf_0 rfl rfl ?_
  refine J.getfield d_D_freeSlotsOf_1 fl_D_15 rfl rfl ?_
  refine J.iload_n d_D_freeSlotsOf_4 rfl rfl ?_
  refine J.ialoadN d_D_freeSlotsOf_5 rfl (by omega) (by omega) ?_
  exact J.ireturn d_D_freeSlotsOf_6 rfl (by decide) (by decide)
theorem con_D_isTaken {q : Nat} (hq : q < 128) (h2 : tk q < 2) : Con l i_D_isTaken [.ref 5, .int (nI q)] (CM K Mo dr dl ou ol da eq al fr tk by_ ln pl X) (.inl (some (.int (nI (tk q))), (CM K Mo dr dl ou ol da eq al fr tk by_ ln pl X))) := by
  refine Con.of ?_
  refine J.aload_n d_D_isTaken_0 rfl rfl ?_
  refine J.getfield d_D_isTaken_1 fl_D_19 rfl rfl ?_
  refine J.iload_n d_D_isTaken_4 rfl rfl ?_
  refine J.baloadN d_D_isTaken_5 rfl (by omega) (by omega) ?_
  first | exact J.zreturn d_D_isTaken_6 rfl rfl (by decide) (by decide) | exact J.zreturnN d_D_isTaken_6 rfl (by omega) (by decide) (by decide)
theorem con_D_start {d : Nat} (hd : d < 8) : Con l i_D_start [.ref 5, .int (nI d)] (CM K Mo dr dl ou ol da eq al fr tk by_ ln pl X) (.inl (none, (CM K Mo dr dl ou ol da eq (up al d 1) fr tk by_ ln pl X))) := by
  refine Con.of ?_
  refine J.aload_n d_D_start_0 rfl rfl ?_
  refine J.getfield d_D_start_1 fl_D_9 rfl rfl ?_
  refine J.iload_n d_D_start_4 rfl rfl ?_
  refine J.iconst d_D_start_5 (v := nI 1) (by decide) ?_
  refine J.bastoreN d_D_start_6 rfl (by omega) (by omega) (by omega) ?_
  exact J.vreturn d_D_start_7 rfl (by decide) (by decide)
theorem con_D_byteAt {q t : Nat} (hq : q < 128) (ht : t < 4) : Con l i_D_byteAt [.ref 5, .int (nI q), .int (nI t)] (CM K Mo dr dl ou ol da eq al fr tk by_ ln pl X) (.inl (some (.int (nI (by_ (q * 4 + t)))), (CM K Mo dr dl ou ol da eq al fr tk by_ ln pl X))) := by
  refine Con.of ?_
  refine J.aload_n d_D_byteAt_0 rfl rfl ?_
  refine J.getfield d_D_byteAt_1 fl_D_22 rfl rfl ?_
  refine J.iload_n d_D_byteAt_4 rfl rfl ?_
  refine J.iconst d_D_byteAt_5 (v := nI 4) (by decide) ?_
  refine J.imulN d_D_byteAt_6 ?_
  refine J.iload_n d_D_byteAt_7 rfl rfl ?_
  refine J.iaddN d_D_byteAt_8 ?_
  refine J.ialoadN d_D_byteAt_9 rfl (by omega) (by omega) ?_
  exact J.ireturn d_D_byteAt_10 rfl (by decide) (by decide)
theorem con_D_setByte {q t v : Nat} (hq : q < 128) (ht : t < 4) : Con l i_D_setByte [.ref 5, .int (nI q), .int (nI t), .int (nI v)] (CM K Mo dr dl ou ol da eq al fr tk by_ ln pl X) (.inl (none, (CM K Mo dr dl ou ol da eq al fr tk (up by_ (q * 4 + t) v) ln pl X))) := by
  refine Con.of ?_
  refine J.aload_n d_D_setByte_0 rfl rfl ?_
  refine J.getfield d_D_setByte_1 fl_D_22 rfl rfl ?_
  refine J.iload_n d_D_setByte_4 rfl rfl ?_
  refine J.iconst d_D_setByte_5 (v := nI 4) (by decide) ?_
  refine J.imulN d_D_setByte_6 ?_
  refine J.iload_n d_D_setByte_7 rfl rfl ?_
  refine J.iaddN d_D_setByte_8 ?_
  refine J.iload_n d_D_setByte_9 rfl rfl ?_
  refine J.iastoreN d_D_setByte_10 rfl (by omega) (by omega) ?_
  exact J.vreturn d_D_setByte_11 rfl (by decide) (by decide)
theorem con_D_releaseSlot {q : Nat} (hq : q < 128) : Con l i_D_releaseSlot [.ref 5, .int (nI q)] (CM K Mo dr dl ou ol da eq al fr tk by_ ln pl X) (.inl (none, (CM K Mo dr dl ou ol da eq al (up fr (q / 16) (fr (q / 16) + 1)) (up tk q 0) by_ ln pl X))) := by
  refine Con.of ?_
  refine J.aload_n d_D_releaseSlot_0 rfl rfl ?_
  refine J.getfield d_D_releaseSlot_1 fl_D_19 rfl rfl ?_
  refine J.iload_n d_D_releaseSlot_4 rfl rfl ?_
  refine J.iconst d_D_releaseSlot_5 (v := nI 0) (by decide) ?_
  refine J.bastoreN d_D_releaseSlot_6 rfl (by omega) (by omega) (by omega) ?_
  refine J.aload_n d_D_releaseSlot_7 rfl rfl ?_
  refine J.getfield d_D_releaseSlot_8 fl_D_15 rfl rfl ?_
  refine J.iload_n d_D_releaseSlot_11 rfl rfl ?_
  refine J.bipush d_D_releaseSlot_12 (v := nI 16) (by decide) ?_
  refine J.idivN d_D_releaseSlot_14 (by omega) (by omega) (by omega) ?_
  refine J.dup2 d_D_releaseSlot_15 rfl rfl ?_
  refine J.ialoadN d_D_releaseSlot_16 rfl (by omega) (by omega) ?_
  refine J.iconst d_D_releaseSlot_17 (v := nI 1) (by decide) ?_
  refine J.iaddN d_D_releaseSlot_18 ?_
  refine J.iastoreN d_D_releaseSlot_19 rfl (by omega) (by omega) ?_
  exact J.vreturn d_D_releaseSlot_20 rfl (by decide) (by decide)
theorem con_G_holds {o : Nat} (ho : o < 6) (hl : ln o < 2 ^ 30) : Con l i_G_holds [.ref 10, .int (nI o)] (CM K Mo dr dl ou ol da eq al fr tk by_ ln pl X) (.inl (some (.int (nI (if 0 < ln o then 1 else 0))), (CM K Mo dr dl ou ol da eq al fr tk by_ ln pl X))) := by
  refine Con.of ?_
  refine J.aload_n d_G_holds_0 rfl rfl ?_
  refine J.getfield d_G_holds_1 fl_G_18 rfl rfl ?_
  refine J.iload_n d_G_holds_4 rfl rfl ?_
  refine J.ialoadN d_G_holds_5 rfl (by omega) (by omega) ?_
  refine J.if_leN d_G_holds_6 (tgt := 13) (by decide) (by omega) (fun h => ?_) (fun h => ?_)
  · rw [if_neg (by omega)]
    refine J.iconst d_G_holds_13 (v := nI 0) (by decide) ?_
    first | exact J.zreturn d_G_holds_14 rfl rfl (by decide) (by decide) | exact J.zreturnN d_G_holds_14 rfl (by omega) (by decide) (by decide)
  · rw [if_pos (by omega)]
    refine J.iconst d_G_holds_9 (v := nI 1) (by decide) ?_
    refine J.goto d_G_holds_10 (tgt := 14) (by decide) ?_
    first | exact J.zreturn d_G_holds_14 rfl rfl (by decide) (by decide) | exact J.zreturnN d_G_holds_14 rfl (by omega) (by decide) (by decide)
end LEAVES
end
section
/-! The catalogue's and the disks' other methods -/
section CAT
variable {l : Launch} {K Mo dl ol : Nat} {dr ou da eq al fr tk by_ ln pl : Nat → Nat} {X : List va_E}
def b2n (b : Bool) : Nat := if b then 1 else 0
theorem b2n_lt (b : Bool) : b2n b < 2 := by cases b <;> decide
/-- how many stripes n bytes take -/
def ns (K n : Nat) : Nat := (n + 4 * K - 1) / (4 * K)
/-- a sum of the first n -/
def cs (f : Nat → Nat) : Nat → Nat
  | 0 => 0
  | n + 1 => cs f n + f n
theorem cs_le {f : Nat → Nat} {b : Nat} (h : ∀ i, f i ≤ b) : ∀ n, cs f n ≤ n * b
  | 0 => Nat.zero_le _
  | n + 1 => by
    have := cs_le h n
    have := h n
    unfold cs
    rw [Nat.succ_mul]; omega
/-- is one of the first n -/
def anyB (p : Nat → Bool) : Nat → Bool
  | 0 => false
  | n + 1 => anyB p n || p n
theorem anyB_true {p : Nat → Bool} {i : Nat} (hp : p i = true) : ∀ n, i < n → anyB p n = true
  | 0, h => absurd h (Nat.not_lt_zero _)
  | n + 1, h => by
    unfold anyB
    rcases Nat.lt_or_ge i n with h1 | h1
    · rw [anyB_true hp n h1]; rfl
    · have : i = n := by omega
      subst this; rw [hp, Bool.or_true]
/-- a lost shard's mark -/
def z1 (x : Nat) : Nat := if x = 0 then 1 else 0
/-- a place of the class (less one) lies on a disk -/
def od (d x : Nat) : Bool := decide (x ≠ 0) && decide ((x - 1) / 16 = d)
theorem con_G_lengthOf {o : Nat} (ho : o < 6) : Con l i_G_lengthOf [.ref 10, .int (nI o)] (CM K Mo dr dl ou ol da eq al fr tk by_ ln pl X) (.inl (some (.int (nI (ln o))), (CM K Mo dr dl ou ol da eq al fr tk by_ ln pl X))) := by
  refine Con.of ?_
  refine J.aload_n d_G_lengthOf_0 rfl rfl ?_
  refine J.getfield d_G_lengthOf_1 fl_G_18 rfl rfl ?_
  refine J.iload_n d_G_lengthOf_4 rfl rfl ?_
  refine J.ialoadN d_G_lengthOf_5 rfl (by omega) (by omega) ?_
  exact J.ireturn d_G_lengthOf_6 rfl (by decide) (by decide)
theorem con_G_stripesOf {o : Nat} (ho : o < 6) (hK : 0 < K) (hK4 : K ≤ 4) (hl : ln o < 2 ^ 30) : Con l i_G_stripesOf [.ref 10, .int (nI o)] (CM K Mo dr dl ou ol da eq al fr tk by_ ln pl X) (.inl (some (.int (nI (ns K (ln o)))), (CM K Mo dr dl ou ol da eq al fr tk by_ ln pl X))) := by
  refine Con.of ?_
  refine J.aload_n d_G_stripesOf_0 rfl rfl ?_
  refine J.getfield d_G_stripesOf_1 fl_G_18 rfl rfl ?_
  refine J.iload_n d_G_stripesOf_4 rfl rfl ?_
  refine J.ialoadN d_G_stripesOf_5 rfl (by omega) (by omega) ?_
  refine J.aload_n d_G_stripesOf_6 rfl rfl ?_
  refine J.getfield d_G_stripesOf_7 fl_G_15 rfl rfl ?_
  refine J.iaddN d_G_stripesOf_10 ?_
  refine J.iconst d_G_stripesOf_11 (v := nI 1) (by decide) ?_
  refine J.isubN d_G_stripesOf_12 (by omega) ?_
  refine J.aload_n d_G_stripesOf_13 rfl rfl ?_
  refine J.getfield d_G_stripesOf_14 fl_G_15 rfl rfl ?_
  refine J.idivN d_G_stripesOf_17 (by omega) (by omega) (by omega) ?_
  exact J.ireturn d_G_stripesOf_18 rfl (by decide) (by decide)
theorem con_G_enter {o v : Nat} (ho : o < 6) : Con l i_G_enter [.ref 10, .int (nI o), .int (nI v)] (CM K Mo dr dl ou ol da eq al fr tk by_ ln pl X) (.inl (none, (CM K Mo dr dl ou ol da eq al fr tk by_ (up ln o v) pl X))) := by
  refine Con.of ?_
  refine J.aload_n d_G_enter_0 rfl rfl ?_
  refine J.getfield d_G_enter_1 fl_G_18 rfl rfl ?_
  refine J.iload_n d_G_enter_4 rfl rfl ?_
  refine J.iload_n d_G_enter_5 rfl rfl ?_
  refine J.iastoreN d_G_enter_6 rfl (by omega) (by omega) ?_
  exact J.vreturn d_G_enter_7 rfl (by decide) (by decide)
theorem con_G_strike {o : Nat} (ho : o < 6) : Con l i_G_strike [.ref 10, .int (nI o)] (CM K Mo dr dl ou ol da eq al fr tk by_ ln pl X) (.inl (none, (CM K Mo dr dl ou ol da eq al fr tk by_ (up ln o 0) pl X))) := by
  refine Con.of ?_
  refine J.aload_n d_G_strike_0 rfl rfl ?_
  refine J.getfield d_G_strike_1 fl_G_18 rfl rfl ?_
  refine J.iload_n d_G_strike_4 rfl rfl ?_
  refine J.iconst d_G_strike_5 (v := nI 0) (by decide) ?_
  refine J.iastoreN d_G_strike_6 rfl (by omega) (by omega) ?_
  exact J.vreturn d_G_strike_7 rfl (by decide) (by decide)
theorem con_G_rowOf {o s : Nat} : Con l i_G_rowOf [.ref 10, .int (nI o), .int (nI s)] (CM K Mo dr dl ou ol da eq al fr tk by_ ln pl X) (.inl (some (.int (nI (o * 56 + s * (K + Mo)))), (CM K Mo dr dl ou ol da eq al fr tk by_ ln pl X))) := by
  refine Con.of ?_
  refine J.iload_n d_G_rowOf_0 rfl rfl ?_
  refine J.bipush d_G_rowOf_1 (v := nI 56) (by decide) ?_
  refine J.imulN d_G_rowOf_3 ?_
  refine J.iload_n d_G_rowOf_4 rfl rfl ?_
  refine J.aload_n d_G_rowOf_5 rfl rfl ?_
  refine J.getfield d_G_rowOf_6 fl_G_9 rfl rfl ?_
  refine J.imulN d_G_rowOf_9 ?_
  refine J.iaddN d_G_rowOf_10 ?_
  exact J.ireturn d_G_rowOf_11 rfl (by decide) (by decide)
theorem con_G_placeOf {r h : Nat} (hr : r + h < 336) : Con l i_G_placeOf [.ref 10, .int (nI r), .int (nI h)] (CM K Mo dr dl ou ol da eq al fr tk by_ ln pl X) (.inl (some (.int (pI (pl (r + h)))), (CM K Mo dr dl ou ol da eq al fr tk by_ ln pl X))) := by
  refine Con.of ?_
  refine J.aload_n d_G_placeOf_0 rfl rfl ?_
  refine J.getfield d_G_placeOf_1 fl_G_22 rfl rfl ?_
  refine J.iload_n d_G_placeOf_4 rfl rfl ?_
  refine J.iload_n d_G_placeOf_5 rfl rfl ?_
  refine J.iaddN d_G_placeOf_6 ?_
  refine J.ialoadP d_G_placeOf_7 rfl (by omega) (by omega) ?_
  exact J.ireturn d_G_placeOf_8 rfl (by decide) (by decide)
theorem con_G_setPlace {r h v : Nat} (hr : r + h < 336) : Con l i_G_setPlace [.ref 10, .int (nI r), .int (nI h), .int (pI v)] (CM K Mo dr dl ou ol da eq al fr tk by_ ln pl X) (.inl (none, (CM K Mo dr dl ou ol da eq al fr tk by_ ln (up pl (r + h) v) X))) := by
  refine Con.of ?_
  refine J.aload_n d_G_setPlace_0 rfl rfl ?_
  refine J.getfield d_G_setPlace_1 fl_G_22 rfl rfl ?_
  refine J.iload_n d_G_setPlace_4 rfl rfl ?_
  refine J.iload_n d_G_setPlace_5 rfl rfl ?_
  refine J.iaddN d_G_setPlace_6 ?_
  refine J.iload_n d_G_setPlace_7 rfl rfl ?_
  refine J.iastoreP d_G_setPlace_8 rfl (by omega) (by omega) ?_
  exact J.vreturn d_G_setPlace_9 rfl (by decide) (by decide)
theorem con_G_isPlaceOnDisk {x d : Nat} (hx : x < 2 ^ 30) (hd : d < 8) (M : List va_E) : Con l i_G_isPlaceOnDisk [.int (pI x), .int (nI d)] M (.inl (some (.int (nI (b2n (od d x)))), M)) := by
  refine Con.of ?_
  refine J.iload_n d_G_isPlaceOnDisk_0 rfl rfl ?_
  refine J.iconst d_G_isPlaceOnDisk_1 (v := pI 0) (by decide) ?_
  refine J.icmp_eqP d_G_isPlaceOnDisk_2 (tgt := 17) (by decide) (by omega) (by omega) (fun h => ?_) (fun h => ?_)
  · have e : b2n (od d x) = 0 := by rw [h]; rfl
    rw [e]
    refine J.iconst d_G_isPlaceOnDisk_17 (v := nI 0) (by decide) ?_
    first | exact J.zreturn d_G_isPlaceOnDisk_18 rfl rfl (by decide) (by decide) | exact J.zreturnN d_G_isPlaceOnDisk_18 rfl (by omega) (by decide) (by decide)
  · obtain ⟨y, rfl⟩ : ∃ y, x = y + 1 := ⟨x - 1, by omega⟩
    rw [pI_succ]
    refine J.iload_n d_G_isPlaceOnDisk_5 rfl (x := nI y) (by rw [← pI_succ]; rfl) ?_
    refine J.bipush d_G_isPlaceOnDisk_6 (v := nI 16) (by decide) ?_
    refine J.idivN d_G_isPlaceOnDisk_8 (by omega) (by omega) (by omega) ?_
    refine J.iload_n d_G_isPlaceOnDisk_9 rfl rfl ?_
    refine J.icmp_neN d_G_isPlaceOnDisk_10 (tgt := 17) (by decide) (by omega) (by omega) (fun h2 => ?_) (fun h2 => ?_)
    · have e : b2n (od d (y + 1)) = 0 := by simp [od, b2n]; omega
      rw [e]
      refine J.iconst d_G_isPlaceOnDisk_17 (v := nI 0) (by decide) ?_
      first | exact J.zreturn d_G_isPlaceOnDisk_18 rfl rfl (by decide) (by decide) | exact J.zreturnN d_G_isPlaceOnDisk_18 rfl (by omega) (by decide) (by decide)
    · have e : b2n (od d (y + 1)) = 1 := by simp [od, b2n]; omega
      rw [e]
      refine J.iconst d_G_isPlaceOnDisk_13 (v := nI 1) (by decide) ?_
      refine J.goto d_G_isPlaceOnDisk_14 (tgt := 18) (by decide) ?_
      first | exact J.zreturn d_G_isPlaceOnDisk_18 rfl rfl (by decide) (by decide) | exact J.zreturnN d_G_isPlaceOnDisk_18 rfl (by omega) (by decide) (by decide)
theorem lp_G_countLost {r : Nat} (hS : K + Mo ≤ 7) (hr : r + (K + Mo) ≤ 336) (hp : ∀ i, pl i < 2 ^ 30) : ∀ (j i : Nat), i + j = K + Mo →
    J l i_G_countLost 4 [(0, .ref 10), (1, .int (nI r)), (2, .int (nI (cs (fun h => z1 (pl (r + h))) i))), (3, .int (nI i))] [] (CM K Mo dr dl ou ol da eq al fr tk by_ ln pl X) 0 0 (.inl (some (.int (nI (cs (fun h => z1 (pl (r + h))) (K + Mo)))), (CM K Mo dr dl ou ol da eq al fr tk by_ ln pl X)))
  | 0, i, hi => by
    refine J.iload_n d_G_countLost_4 rfl rfl ?_
    refine J.aload_n d_G_countLost_5 rfl rfl ?_
    refine J.getfield d_G_countLost_6 fl_G_9 rfl rfl ?_
    refine J.icmp_geN d_G_countLost_9 (tgt := 33) (by decide) (by omega) (by omega) (fun h => ?_) (fun h => ?_)
    · rw [show i = K + Mo by omega]
      refine J.iload_n d_G_countLost_33 rfl rfl ?_
      exact J.ireturn d_G_countLost_34 rfl (by decide) (by decide)
    · omega
  | j + 1, i, hi => by
    refine J.iload_n d_G_countLost_4 rfl rfl ?_
    refine J.aload_n d_G_countLost_5 rfl rfl ?_
    refine J.getfield d_G_countLost_6 fl_G_9 rfl rfl ?_
    refine J.icmp_geN d_G_countLost_9 (tgt := 33) (by decide) (by omega) (by omega) (fun h => ?_) (fun h => ?_)
    · omega
    have hpi := hp (r + i)
    refine J.aload_n d_G_countLost_12 rfl rfl ?_
    refine J.getfield d_G_countLost_13 fl_G_22 rfl rfl ?_
    refine J.iload_n d_G_countLost_16 rfl rfl ?_
    refine J.iload_n d_G_countLost_17 rfl rfl ?_
    refine J.iaddN d_G_countLost_18 ?_
    refine J.ialoadP d_G_countLost_19 rfl (by omega) (by omega) ?_
    refine J.iconst d_G_countLost_20 (v := pI 0) (by decide) ?_
    refine J.icmp_neP d_G_countLost_21 (tgt := 27) (by decide) (by omega) (by omega) (fun h => ?_) (fun h => ?_)
    · refine J.iincN d_G_countLost_27 rfl rfl (by decide) rfl ?_
      refine J.goto d_G_countLost_30 (tgt := 4) (by decide) ?_
      have e : cs (fun h => z1 (pl (r + h))) (i + 1) = cs (fun h => z1 (pl (r + h))) i := by simp [cs, z1, h]
      have := lp_G_countLost hS hr hp j (i + 1) (by omega)
      rw [e] at this
      exact this
    · refine J.iincN d_G_countLost_24 rfl rfl (by decide) rfl ?_
      refine J.iincN d_G_countLost_27 rfl rfl (by decide) rfl ?_
      refine J.goto d_G_countLost_30 (tgt := 4) (by decide) ?_
      have e : cs (fun h => z1 (pl (r + h))) (i + 1) = cs (fun h => z1 (pl (r + h))) i + 1 := by simp [cs, z1, h]
      have := lp_G_countLost hS hr hp j (i + 1) (by omega)
      rw [e] at this
      exact this
theorem con_G_countLost {r : Nat} (hS : K + Mo ≤ 7) (hr : r + (K + Mo) ≤ 336) (hp : ∀ i, pl i < 2 ^ 30) : Con l i_G_countLost [.ref 10, .int (nI r)] (CM K Mo dr dl ou ol da eq al fr tk by_ ln pl X) (.inl (some (.int (nI (cs (fun h => z1 (pl (r + h))) (K + Mo)))), (CM K Mo dr dl ou ol da eq al fr tk by_ ln pl X))) := by
  refine Con.of ?_
  refine J.iconst d_G_countLost_0 (v := nI 0) (by decide) ?_
  refine J.istore_n d_G_countLost_1 rfl (by decide) rfl ?_
  refine J.iconst d_G_countLost_2 (v := nI 0) (by decide) ?_
  refine J.istore_n d_G_countLost_3 rfl (by decide) rfl ?_
  exact lp_G_countLost hS hr hp (K + Mo) 0 (by omega)
theorem lp_G_isOnDisk {r d : Nat} (hd : d < 8) (hS : K + Mo ≤ 7) (hr : r + (K + Mo) ≤ 336) (hp : ∀ i, pl i < 2 ^ 30) : ∀ (j i : Nat), i + j = K + Mo → anyB (fun h => od d (pl (r + h))) i = false →
    J l i_G_isOnDisk 2 [(0, .ref 10), (1, .int (nI r)), (2, .int (nI d)), (3, .int (nI i))] [] (CM K Mo dr dl ou ol da eq al fr tk by_ ln pl X) 0 0 (.inl (some (.int (nI (b2n (anyB (fun h => od d (pl (r + h))) (K + Mo))))), (CM K Mo dr dl ou ol da eq al fr tk by_ ln pl X)))
  | 0, i, hi, ha => by
    refine J.iload_n d_G_isOnDisk_2 rfl rfl ?_
    refine J.aload_n d_G_isOnDisk_3 rfl rfl ?_
    refine J.getfield d_G_isOnDisk_4 fl_G_9 rfl rfl ?_
    refine J.icmp_geN d_G_isOnDisk_7 (tgt := 33) (by decide) (by omega) (by omega) (fun h => ?_) (fun h => ?_)
    · rw [show i = K + Mo by omega] at ha
      rw [ha]
      refine J.iconst d_G_isOnDisk_33 (v := nI 0) (by decide) ?_
      first | exact J.zreturn d_G_isOnDisk_34 rfl rfl (by decide) (by decide) | exact J.zreturnN d_G_isOnDisk_34 rfl (by omega) (by decide) (by decide)
    · omega
  | j + 1, i, hi, ha => by
    refine J.iload_n d_G_isOnDisk_2 rfl rfl ?_
    refine J.aload_n d_G_isOnDisk_3 rfl rfl ?_
    refine J.getfield d_G_isOnDisk_4 fl_G_9 rfl rfl ?_
    refine J.icmp_geN d_G_isOnDisk_7 (tgt := 33) (by decide) (by omega) (by omega) (fun h => ?_) (fun h => ?_)
    · omega
    have hpi := hp (r + i)
    refine J.aload_n d_G_isOnDisk_10 rfl rfl ?_
    refine J.getfield d_G_isOnDisk_11 fl_G_22 rfl rfl ?_
    refine J.iload_n d_G_isOnDisk_14 rfl rfl ?_
    refine J.iload_n d_G_isOnDisk_15 rfl rfl ?_
    refine J.iaddN d_G_isOnDisk_16 ?_
    refine J.ialoadP d_G_isOnDisk_17 rfl (by omega) (by omega) ?_
    refine J.iload_n d_G_isOnDisk_18 rfl rfl ?_
    refine J.s2i (con_G_isPlaceOnDisk hpi hd _) k_G_isOnDisk_G_isPlaceOnDisk d_G_isOnDisk_19 rfl ?_
    have hb := b2n_lt (od d (pl (r + i)))
    refine J.if_eqN d_G_isOnDisk_22 (tgt := 27) (by decide) (by omega) (fun h2 => ?_) (fun h2 => ?_)
    · refine J.iincN d_G_isOnDisk_27 rfl rfl (by decide) rfl ?_
      refine J.goto d_G_isOnDisk_30 (tgt := 2) (by decide) ?_
      have e : od d (pl (r + i)) = false := by cases hz : od d (pl (r + i)) <;> simp_all [b2n]
      exact lp_G_isOnDisk hd hS hr hp j (i + 1) (by omega) (by simp [anyB, ha, e])
    · have e : od d (pl (r + i)) = true := by cases hz : od d (pl (r + i)) <;> simp_all [b2n]
      rw [anyB_true (p := fun h => od d (pl (r + h))) e (K + Mo) (by omega)]
      refine J.iconst d_G_isOnDisk_25 (v := nI 1) (by decide) ?_
      first | exact J.zreturn d_G_isOnDisk_26 rfl rfl (by decide) (by decide) | exact J.zreturnN d_G_isOnDisk_26 rfl (by omega) (by decide) (by decide)
theorem con_G_isOnDisk {r d : Nat} (hd : d < 8) (hS : K + Mo ≤ 7) (hr : r + (K + Mo) ≤ 336) (hp : ∀ i, pl i < 2 ^ 30) : Con l i_G_isOnDisk [.ref 10, .int (nI r), .int (nI d)] (CM K Mo dr dl ou ol da eq al fr tk by_ ln pl X) (.inl (some (.int (nI (b2n (anyB (fun h => od d (pl (r + h))) (K + Mo))))), (CM K Mo dr dl ou ol da eq al fr tk by_ ln pl X))) := by
  refine Con.of ?_
  refine J.iconst d_G_isOnDisk_0 (v := nI 0) (by decide) ?_
  refine J.istore_n d_G_isOnDisk_1 rfl (by decide) rfl ?_
  exact lp_G_isOnDisk hd hS hr hp (K + Mo) 0 (by omega) rfl
/-- the places less those on a disk, the first n of them -/
def lz (pl : Nat → Nat) (d n : Nat) : Nat → Nat := fun i => if i < n ∧ od d (pl i) = true then 0 else pl i
theorem lz_at (pl : Nat → Nat) (d n : Nat) : lz pl d n n = pl n := by simp [lz]
theorem lz_yes {pl : Nat → Nat} {d n : Nat} (h : od d (pl n) = true) : up (lz pl d n) n 0 = lz pl d (n + 1) := by
  funext i
  by_cases hi : i = n
  · subst hi; simp [up, lz, h]
  · simp only [up, lz, if_neg hi]
    have : (i < n + 1) ↔ i < n := by omega
    simp only [this]
theorem lz_no {pl : Nat → Nat} {d n : Nat} (h : od d (pl n) = false) : lz pl d (n + 1) = lz pl d n := by
  funext i
  by_cases hi : i = n
  · subst hi; simp [lz, h]
  · simp only [lz]
    have : (i < n + 1) ↔ i < n := by omega
    simp only [this]
theorem lp_G_loseDisk {d : Nat} (hd : d < 8) (hp : ∀ i, pl i < 2 ^ 30) : ∀ (j i : Nat), i + j = 336 →
    J l i_G_loseDisk 2 [(0, .ref 10), (1, .int (nI d)), (2, .int (nI i))] [] (CM K Mo dr dl ou ol da eq al fr tk by_ ln (lz pl d i) X) 0 0 (.inl (none, (CM K Mo dr dl ou ol da eq al fr tk by_ ln (lz pl d 336) X)))
  | 0, i, hi => by
    refine J.iload_n d_G_loseDisk_2 rfl rfl ?_
    refine J.aload_n d_G_loseDisk_3 rfl rfl ?_
    refine J.getfield d_G_loseDisk_4 fl_G_22 rfl rfl ?_
    refine J.arraylength d_G_loseDisk_7 rfl (by decide) (v := nI _) rfl ?_
    refine J.icmp_geN d_G_loseDisk_8 (tgt := 37) (by decide) (by omega) (by omega) (fun h => ?_) (fun h => ?_)
    · rw [show i = 336 by omega]
      exact J.vreturn d_G_loseDisk_37 rfl (by decide) (by decide)
    · omega
  | j + 1, i, hi => by
    refine J.iload_n d_G_loseDisk_2 rfl rfl ?_
    refine J.aload_n d_G_loseDisk_3 rfl rfl ?_
    refine J.getfield d_G_loseDisk_4 fl_G_22 rfl rfl ?_
    refine J.arraylength d_G_loseDisk_7 rfl (by decide) (v := nI _) rfl ?_
    refine J.icmp_geN d_G_loseDisk_8 (tgt := 37) (by decide) (by omega) (by omega) (fun h => ?_) (fun h => ?_)
    · omega
    have hpi := hp i
    refine J.aload_n d_G_loseDisk_11 rfl rfl ?_
    refine J.getfield d_G_loseDisk_12 fl_G_22 rfl rfl ?_
    refine J.iload_n d_G_loseDisk_15 rfl rfl ?_
    refine J.ialoadP d_G_loseDisk_16 rfl (by omega) (by omega) ?_
    refine J.iload_n d_G_loseDisk_17 rfl rfl ?_
    rw [lz_at]
    refine J.s2i (con_G_isPlaceOnDisk hpi hd _) k_G_loseDisk_G_isPlaceOnDisk d_G_loseDisk_18 rfl ?_
    have hb := b2n_lt (od d (pl i))
    refine J.if_eqN d_G_loseDisk_21 (tgt := 31) (by decide) (by omega) (fun h2 => ?_) (fun h2 => ?_)
    · refine J.iincN d_G_loseDisk_31 rfl rfl (by decide) rfl ?_
      refine J.goto d_G_loseDisk_34 (tgt := 2) (by decide) ?_
      have e : od d (pl i) = false := by cases hz : od d (pl i) <;> simp_all [b2n]
      have := lp_G_loseDisk hd hp j (i + 1) (by omega)
      rw [lz_no e] at this
      exact this
    · have e : od d (pl i) = true := by cases hz : od d (pl i) <;> simp_all [b2n]
      refine J.aload_n d_G_loseDisk_24 rfl rfl ?_
      refine J.getfield d_G_loseDisk_25 fl_G_22 rfl rfl ?_
      refine J.iload_n d_G_loseDisk_28 rfl rfl ?_
      refine J.iconst d_G_loseDisk_29 (v := pI 0) (by decide) ?_
      refine J.iastoreP d_G_loseDisk_30 rfl (by omega) (by omega) ?_
      refine J.iincN d_G_loseDisk_31 rfl rfl (by decide) rfl ?_
      refine J.goto d_G_loseDisk_34 (tgt := 2) (by decide) ?_
      have := lp_G_loseDisk hd hp j (i + 1) (by omega)
      rw [← lz_yes e] at this
      exact this
theorem con_G_loseDisk {d : Nat} (hd : d < 8) (hp : ∀ i, pl i < 2 ^ 30) : Con l i_G_loseDisk [.ref 10, .int (nI d)] (CM K Mo dr dl ou ol da eq al fr tk by_ ln pl X) (.inl (none, (CM K Mo dr dl ou ol da eq al fr tk by_ ln (lz pl d 336) X))) := by
  refine Con.of ?_
  refine J.iconst d_G_loseDisk_0 (v := nI 0) (by decide) ?_
  refine J.istore_n d_G_loseDisk_1 rfl (by decide) rfl ?_
  have e : lz pl d 0 = pl := by funext i; simp [lz]
  have := lp_G_loseDisk (l := l) (K := K) (Mo := Mo) (dl := dl) (ol := ol) (dr := dr) (ou := ou) (da := da) (eq := eq) (al := al) (fr := fr) (tk := tk) (by_ := by_) (ln := ln) (X := X) hd hp 336 0 (by omega)
  rw [e] at this
  exact this
theorem lp_D_countAlive (h2 : ∀ i, al i < 2) : ∀ (j i : Nat), i + j = 8 →
    J l i_D_countAlive 4 [(0, .ref 5), (1, .int (nI (cs al i))), (2, .int (nI i))] [] (CM K Mo dr dl ou ol da eq al fr tk by_ ln pl X) 0 0 (.inl (some (.int (nI (cs al 8))), (CM K Mo dr dl ou ol da eq al fr tk by_ ln pl X)))
  | 0, i, hi => by
    refine J.iload_n d_D_countAlive_4 rfl rfl ?_
    refine J.bipush d_D_countAlive_5 (v := nI 8) (by decide) ?_
    refine J.icmp_geN d_D_countAlive_7 (tgt := 28) (by decide) (by omega) (by omega) (fun h => ?_) (fun h => ?_)
    · rw [show i = 8 by omega]
      refine J.iload_n d_D_countAlive_28 rfl rfl ?_
      exact J.ireturn d_D_countAlive_29 rfl (by decide) (by decide)
    · omega
  | j + 1, i, hi => by
    have h2i := h2 i
    refine J.iload_n d_D_countAlive_4 rfl rfl ?_
    refine J.bipush d_D_countAlive_5 (v := nI 8) (by decide) ?_
    refine J.icmp_geN d_D_countAlive_7 (tgt := 28) (by decide) (by omega) (by omega) (fun h => ?_) (fun h => ?_)
    · omega
    refine J.aload_n d_D_countAlive_10 rfl rfl ?_
    refine J.getfield d_D_countAlive_11 fl_D_9 rfl rfl ?_
    refine J.iload_n d_D_countAlive_14 rfl rfl ?_
    refine J.baloadN d_D_countAlive_15 rfl (by omega) (by omega) ?_
    refine J.if_eqN d_D_countAlive_16 (tgt := 22) (by decide) (by omega) (fun h3 => ?_) (fun h3 => ?_)
    · refine J.iincN d_D_countAlive_22 rfl rfl (by decide) rfl ?_
      refine J.goto d_D_countAlive_25 (tgt := 4) (by decide) ?_
      have e : cs al (i + 1) = cs al i := by simp [cs, h3]
      have := lp_D_countAlive h2 j (i + 1) (by omega)
      rw [e] at this
      exact this
    · refine J.iincN d_D_countAlive_19 rfl rfl (by decide) rfl ?_
      refine J.iincN d_D_countAlive_22 rfl rfl (by decide) rfl ?_
      refine J.goto d_D_countAlive_25 (tgt := 4) (by decide) ?_
      have e : cs al (i + 1) = cs al i + 1 := by simp only [cs]; omega
      have := lp_D_countAlive h2 j (i + 1) (by omega)
      rw [e] at this
      exact this
theorem con_D_countAlive (h2 : ∀ i, al i < 2) : Con l i_D_countAlive [.ref 5] (CM K Mo dr dl ou ol da eq al fr tk by_ ln pl X) (.inl (some (.int (nI (cs al 8))), (CM K Mo dr dl ou ol da eq al fr tk by_ ln pl X))) := by
  refine Con.of ?_
  refine J.iconst d_D_countAlive_0 (v := nI 0) (by decide) ?_
  refine J.istore_n d_D_countAlive_1 rfl (by decide) rfl ?_
  refine J.iconst d_D_countAlive_2 (v := nI 0) (by decide) ?_
  refine J.istore_n d_D_countAlive_3 rfl (by decide) rfl ?_
  exact lp_D_countAlive h2 8 0 (by omega)
/-- a disk's slots made free, the first n of them -/
def fz (tk : Nat → Nat) (d n : Nat) : Nat → Nat := fun q => if q / 16 = d ∧ q % 16 < n then 0 else tk q
theorem fz_up {tk : Nat → Nat} {d n : Nat} (hn : n < 16) : up (fz tk d n) (16 * d + n) 0 = fz tk d (n + 1) := by
  funext q
  by_cases hq : q = 16 * d + n
  · subst hq
    have h1 : (16 * d + n) / 16 = d := by omega
    have h2 : (16 * d + n) % 16 = n := by omega
    simp [up, fz, h1, h2]
  · simp only [up, fz, if_neg hq]
    have : (q / 16 = d ∧ q % 16 < n + 1) ↔ (q / 16 = d ∧ q % 16 < n) := by omega
    simp only [this]
theorem lp_D_stop {d : Nat} (hd : d < 8) : ∀ (j i : Nat), i + j = 10 →
    J l i_D_stop 17 [(0, .ref 5), (1, .int (nI d)), (2, .int (nI i))] [] (CM K Mo dr dl ou ol da eq al fr (fz tk d i) by_ ln pl X) 0 0 (.inl (none, (CM K Mo dr dl ou ol da eq al fr (fz tk d 10) by_ ln pl X)))
  | 0, i, hi => by
    refine J.iload_n d_D_stop_17 rfl rfl ?_
    refine J.bipush d_D_stop_18 (v := nI 10) (by decide) ?_
    refine J.icmp_geN d_D_stop_20 (tgt := 40) (by decide) (by omega) (by omega) (fun h => ?_) (fun h => ?_)
    · rw [show i = 10 by omega]
      exact J.vreturn d_D_stop_40 rfl (by decide) (by decide)
    · omega
  | j + 1, i, hi => by
    refine J.iload_n d_D_stop_17 rfl rfl ?_
    refine J.bipush d_D_stop_18 (v := nI 10) (by decide) ?_
    refine J.icmp_geN d_D_stop_20 (tgt := 40) (by decide) (by omega) (by omega) (fun h => ?_) (fun h => ?_)
    · omega
    refine J.aload_n d_D_stop_23 rfl rfl ?_
    refine J.getfield d_D_stop_24 fl_D_19 rfl rfl ?_
    refine J.iload_n d_D_stop_27 rfl rfl ?_
    refine J.iload_n d_D_stop_28 rfl rfl ?_
    refine J.n2i (con_V_placeAt d i _) k_D_stop_V_placeAt d_D_stop_29 rfl ?_
    refine J.iconst d_D_stop_32 (v := nI 0) (by decide) ?_
    refine J.bastoreN d_D_stop_33 rfl (by omega) (by omega) (by omega) ?_
    refine J.iincN d_D_stop_34 rfl rfl (by decide) rfl ?_
    refine J.goto d_D_stop_37 (tgt := 17) (by decide) ?_
    have := lp_D_stop hd j (i + 1) (by omega)
    rw [← fz_up (by omega)] at this
    exact this
theorem con_D_stop {d : Nat} (hd : d < 8) : Con l i_D_stop [.ref 5, .int (nI d)] (CM K Mo dr dl ou ol da eq al fr tk by_ ln pl X) (.inl (none, (CM K Mo dr dl ou ol da eq (up al d 0) (up fr d 10) (fz tk d 10) by_ ln pl X))) := by
  refine Con.of ?_
  refine J.aload_n d_D_stop_0 rfl rfl ?_
  refine J.getfield d_D_stop_1 fl_D_9 rfl rfl ?_
  refine J.iload_n d_D_stop_4 rfl rfl ?_
  refine J.iconst d_D_stop_5 (v := nI 0) (by decide) ?_
  refine J.bastoreN d_D_stop_6 rfl (by omega) (by omega) (by omega) ?_
  refine J.aload_n d_D_stop_7 rfl rfl ?_
  refine J.getfield d_D_stop_8 fl_D_15 rfl rfl ?_
  refine J.iload_n d_D_stop_11 rfl rfl ?_
  refine J.bipush d_D_stop_12 (v := nI 10) (by decide) ?_
  refine J.iastoreN d_D_stop_14 rfl (by omega) (by omega) ?_
  refine J.iconst d_D_stop_15 (v := nI 0) (by decide) ?_
  refine J.istore_n d_D_stop_16 rfl (by decide) rfl ?_
  have e : fz tk d 0 = tk := by funext q; simp [fz]
  have := lp_D_stop (l := l) (K := K) (Mo := Mo) (dl := dl) (ol := ol) (dr := dr) (ou := ou) (da := da) (eq := eq) (al := up al d 0) (fr := up fr d 10) (tk := tk) (by_ := by_) (ln := ln) (pl := pl) (X := X) hd 10 0 (by omega)
  rw [e] at this
  exact this
theorem lp_D_takeSlot {d s : Nat} (hd : d < 8) (hs : s < 10) (h0 : tk (16 * d + s) = 0) (h1 : ∀ i, i < s → tk (16 * d + i) = 1) (hf : 0 < fr d) : ∀ (j i : Nat), i + j = s → ∀ lv3, lv3 = [] ∨ (∃ x : Nat, lv3 = [(3, .int (nI x))]) →
    J l i_D_takeSlot 2 ([(0, .ref 5), (1, .int (nI d)), (2, .int (nI i))] ++ lv3) [] (CM K Mo dr dl ou ol da eq al fr tk by_ ln pl X) 0 0 (.inl (some (.int (nI (16 * d + s))), (CM K Mo dr dl ou ol da eq al (up fr d (fr d - 1)) (up tk (16 * d + s) 1) by_ ln pl X)))
  | 0, i, hi, lv3, h3 => by
    rw [show i = s by omega]
    rcases h3 with rfl | ⟨x, rfl⟩
    all_goals
      dsimp only [List.append_nil, List.cons_append, List.nil_append]
      refine J.iload_n d_D_takeSlot_2 rfl rfl ?_
      refine J.bipush d_D_takeSlot_3 (v := nI 10) (by decide) ?_
      refine J.icmp_geN d_D_takeSlot_5 (tgt := 48) (by decide) (by omega) (by omega) (fun h => ?_) (fun h => ?_)
      · omega
      refine J.iload_n d_D_takeSlot_8 rfl rfl ?_
      refine J.iload_n d_D_takeSlot_9 rfl rfl ?_
      refine J.n2i (con_V_placeAt d s _) k_D_takeSlot_V_placeAt d_D_takeSlot_10 rfl ?_
      refine J.istore_n d_D_takeSlot_13 rfl (by decide) rfl ?_
      refine J.aload_n d_D_takeSlot_14 rfl rfl ?_
      refine J.getfield d_D_takeSlot_15 fl_D_19 rfl rfl ?_
      refine J.iload_n d_D_takeSlot_18 rfl rfl ?_
      refine J.baloadN d_D_takeSlot_19 rfl (by omega) (by omega) ?_
      rw [h0]
      refine J.if_neN d_D_takeSlot_20 (tgt := 42) (by decide) (by omega) (fun h => ?_) (fun h => ?_)
      · exact absurd rfl h
      refine J.aload_n d_D_takeSlot_23 rfl rfl ?_
      refine J.getfield d_D_takeSlot_24 fl_D_19 rfl rfl ?_
      refine J.iload_n d_D_takeSlot_27 rfl rfl ?_
      refine J.iconst d_D_takeSlot_28 (v := nI 1) (by decide) ?_
      refine J.bastoreN d_D_takeSlot_29 rfl (by omega) (by omega) (by omega) ?_
      refine J.aload_n d_D_takeSlot_30 rfl rfl ?_
      refine J.getfield d_D_takeSlot_31 fl_D_15 rfl rfl ?_
      refine J.iload_n d_D_takeSlot_34 rfl rfl ?_
      refine J.dup2 d_D_takeSlot_35 rfl rfl ?_
      refine J.ialoadN d_D_takeSlot_36 rfl (by omega) (by omega) ?_
      refine J.iconst d_D_takeSlot_37 (v := nI 1) (by decide) ?_
      refine J.isubN d_D_takeSlot_38 (by omega) ?_
      refine J.iastoreN d_D_takeSlot_39 rfl (by omega) (by omega) ?_
      refine J.iload_n d_D_takeSlot_40 rfl rfl ?_
      exact J.ireturn d_D_takeSlot_41 rfl (by decide) (by decide)
  | j + 1, i, hi, lv3, h3 => by
    have h1i := h1 i (by omega)
    rcases h3 with rfl | ⟨x, rfl⟩
    all_goals
      dsimp only [List.append_nil, List.cons_append, List.nil_append]
      refine J.iload_n d_D_takeSlot_2 rfl rfl ?_
      refine J.bipush d_D_takeSlot_3 (v := nI 10) (by decide) ?_
      refine J.icmp_geN d_D_takeSlot_5 (tgt := 48) (by decide) (by omega) (by omega) (fun h => ?_) (fun h => ?_)
      · omega
      refine J.iload_n d_D_takeSlot_8 rfl rfl ?_
      refine J.iload_n d_D_takeSlot_9 rfl rfl ?_
      refine J.n2i (con_V_placeAt d i _) k_D_takeSlot_V_placeAt d_D_takeSlot_10 rfl ?_
      refine J.istore_n d_D_takeSlot_13 rfl (by decide) rfl ?_
      refine J.aload_n d_D_takeSlot_14 rfl rfl ?_
      refine J.getfield d_D_takeSlot_15 fl_D_19 rfl rfl ?_
      refine J.iload_n d_D_takeSlot_18 rfl rfl ?_
      refine J.baloadN d_D_takeSlot_19 rfl (by omega) (by omega) ?_
      rw [h1i]
      refine J.if_neN d_D_takeSlot_20 (tgt := 42) (by decide) (by omega) (fun h => ?_) (fun h => ?_)
      · refine J.iincN d_D_takeSlot_42 rfl rfl (by decide) rfl ?_
        refine J.goto d_D_takeSlot_45 (tgt := 2) (by decide) ?_
        exact lp_D_takeSlot hd hs h0 h1 hf j (i + 1) (by omega) [(3, .int (nI (16 * d + i)))] (Or.inr ⟨_, rfl⟩)
      · exact absurd h (by decide)
theorem con_D_takeSlot {d s : Nat} (hd : d < 8) (hs : s < 10) (h0 : tk (16 * d + s) = 0) (h1 : ∀ i, i < s → tk (16 * d + i) = 1) (hf : 0 < fr d) : Con l i_D_takeSlot [.ref 5, .int (nI d)] (CM K Mo dr dl ou ol da eq al fr tk by_ ln pl X) (.inl (some (.int (nI (16 * d + s))), (CM K Mo dr dl ou ol da eq al (up fr d (fr d - 1)) (up tk (16 * d + s) 1) by_ ln pl X))) := by
  refine Con.of ?_
  refine J.iconst d_D_takeSlot_0 (v := nI 0) (by decide) ?_
  refine J.istore_n d_D_takeSlot_1 rfl (by decide) rfl ?_
  exact lp_D_takeSlot hd hs h0 h1 hf s 0 (by omega) [] (Or.inl rfl)
end CAT
end
section
/-! The coder: inverses, a shard's bytes, lines -/
section CODER
variable {l : Launch} {K Mo dl ol : Nat} {dr ou da eq al fr tk by_ ln pl : Nat → Nat} {X : List va_E}
/-- a times n and a little lies below m times n -/
theorem mulb {a b m n : Nat} (h : a < m) (hb : b < n) : a * n + b < m * n := by
  have h1 : (a + 1) * n ≤ m * n := Nat.mul_le_mul_right n h
  rw [Nat.succ_mul] at h1; omega
theorem lp_V_inverse {a : Nat} (M : List va_E) : ∀ (j i s w : Nat), i + j = 8 → 0 < i → s < 256 → w < 256 →
    J l i_V_inverse 6 [(0, .int (nI a)), (1, .int (nI s)), (2, .int (nI w)), (3, .int (nI i))] [] M 0 0 (.inl (some (.int (nI (giL j s w))), M))
  | 0, i, s, w, hi, h0, hs, hw => by
    refine J.iload_n d_V_inverse_6 rfl rfl ?_
    refine J.bipush d_V_inverse_7 (v := nI 8) (by decide) ?_
    refine J.icmp_geN d_V_inverse_9 (tgt := 30) (by decide) (by omega) (by omega) (fun h => ?_) (fun h => ?_)
    · refine J.iload_n d_V_inverse_30 rfl rfl ?_
      exact J.ireturn d_V_inverse_31 rfl (by decide) (by decide)
    · omega
  | j + 1, i, s, w, hi, h0, hs, hw => by
    refine J.iload_n d_V_inverse_6 rfl rfl ?_
    refine J.bipush d_V_inverse_7 (v := nI 8) (by decide) ?_
    refine J.icmp_geN d_V_inverse_9 (tgt := 30) (by decide) (by omega) (by omega) (fun h => ?_) (fun h => ?_)
    · omega
    refine J.iload_n d_V_inverse_12 rfl rfl ?_
    refine J.iload_n d_V_inverse_13 rfl rfl ?_
    refine J.s2i (con_V_times hs hs M) k_V_inverse_V_times d_V_inverse_14 rfl ?_
    have hs2 := gm_lt (b := s) hs
    refine J.istore_n d_V_inverse_17 rfl (by decide) rfl ?_
    refine J.iload_n d_V_inverse_18 rfl rfl ?_
    refine J.iload_n d_V_inverse_19 rfl rfl ?_
    refine J.s2i (con_V_times hw hs2 M) k_V_inverse_V_times d_V_inverse_20 rfl ?_
    refine J.istore_n d_V_inverse_23 rfl (by decide) rfl ?_
    refine J.iincN d_V_inverse_24 rfl rfl (by decide) rfl ?_
    refine J.goto d_V_inverse_27 (tgt := 6) (by decide) ?_
    exact lp_V_inverse M j (i + 1) (gm s s) (gm w (gm s s)) (by omega) (by omega) hs2 (gm_lt hw)
theorem con_V_inverse {a : Nat} (ha : a < 256) (M : List va_E) : Con l i_V_inverse [.int (nI a)] M (.inl (some (.int (nI (gi a))), M)) := by
  refine Con.of ?_
  refine J.iload_n d_V_inverse_0 rfl rfl ?_
  refine J.istore_n d_V_inverse_1 rfl (by decide) rfl ?_
  refine J.iconst d_V_inverse_2 (v := nI 1) (by decide) ?_
  refine J.istore_n d_V_inverse_3 rfl (by decide) rfl ?_
  refine J.iconst d_V_inverse_4 (v := nI 1) (by decide) ?_
  refine J.istore_n d_V_inverse_5 rfl (by decide) rfl ?_
  exact lp_V_inverse M 7 1 a 1 (by omega) (by omega) ha (by omega)
/-- shard h's byte t: the sum of the first n data by h's factors -/
def wk (K : Nat) (da : Nat → Nat) (h t : Nat) : Nat → Nat
  | 0 => 0
  | n + 1 => wk K da h t n ^^^ gm (fac K (h * K + n)) (da (n * 4 + t))
theorem fac_lt (K i : Nat) : fac K i < 256 := by
  unfold fac
  split
  · split <;> decide
  · exact gi_lt _
theorem wk_lt {K : Nat} {da : Nat → Nat} {h t : Nat} : ∀ n, wk K da h t n < 256
  | 0 => Nat.zero_lt_succ _
  | n + 1 => xor_lt (wk_lt n) (gm_lt (fac_lt _ _))
/-- shard h's byte t as the class works it out -/
def sb (K : Nat) (da : Nat → Nat) (h t : Nat) : Nat := if h < K then da (h * 4 + t) else wk K da h t K
theorem lp_C_shardByte {h t : Nat} (hK : 0 < K) (hK4 : K ≤ 4) (hM : Mo ≤ 3) (hh : h < K + Mo) (ht : t < 4) (hda : ∀ i, da i < 256) : ∀ (j i : Nat), i + j = K →
    J l i_C_shardByte 24 [(0, .ref 1), (1, .int (nI h)), (2, .int (nI t)), (3, .int (nI (wk K da h t i))), (4, .int (nI i))] [] (CM K Mo dr dl ou ol da eq al fr tk by_ ln pl X) 0 0 (.inl (some (.int (nI (wk K da h t K))), (CM K Mo dr dl ou ol da eq al fr tk by_ ln pl X)))
  | 0, i, hi => by
    refine J.iload d_C_shardByte_24 rfl ?_
    refine J.aload_n d_C_shardByte_26 rfl rfl ?_
    refine J.getfield d_C_shardByte_27 fl_C_9 rfl rfl ?_
    refine J.icmp_geN d_C_shardByte_30 (tgt := 70) (by decide) (by omega) (by omega) (fun h => ?_) (fun h => ?_)
    · rw [show i = K by omega]
      refine J.iload_n d_C_shardByte_70 rfl rfl ?_
      exact J.ireturn d_C_shardByte_71 rfl (by decide) (by decide)
    · omega
  | j + 1, i, hi => by
    refine J.iload d_C_shardByte_24 rfl ?_
    refine J.aload_n d_C_shardByte_26 rfl rfl ?_
    refine J.getfield d_C_shardByte_27 fl_C_9 rfl rfl ?_
    refine J.icmp_geN d_C_shardByte_30 (tgt := 70) (by decide) (by omega) (by omega) (fun h => ?_) (fun h => ?_)
    · omega
    have hx := mulb hh (show i < K by omega)
    have hx4 : (K + Mo) * K ≤ 7 * 4 := Nat.mul_le_mul (by omega) hK4
    refine J.iload_n d_C_shardByte_33 rfl rfl ?_
    refine J.aload_n d_C_shardByte_34 rfl rfl ?_
    refine J.getfield d_C_shardByte_35 fl_C_28 rfl rfl ?_
    refine J.iload_n d_C_shardByte_38 rfl rfl ?_
    refine J.aload_n d_C_shardByte_39 rfl rfl ?_
    refine J.getfield d_C_shardByte_40 fl_C_9 rfl rfl ?_
    refine J.imulN d_C_shardByte_43 ?_
    refine J.iload d_C_shardByte_44 rfl ?_
    refine J.iaddN d_C_shardByte_46 ?_
    refine J.ialoadN d_C_shardByte_47 rfl (by omega) (by omega) ?_
    refine J.aload_n d_C_shardByte_48 rfl rfl ?_
    refine J.getfield d_C_shardByte_49 fl_C_21 rfl rfl ?_
    refine J.iload d_C_shardByte_52 rfl ?_
    refine J.iconst d_C_shardByte_54 (v := nI 4) (by decide) ?_
    refine J.imulN d_C_shardByte_55 ?_
    refine J.iload_n d_C_shardByte_56 rfl rfl ?_
    refine J.iaddN d_C_shardByte_57 ?_
    refine J.ialoadN d_C_shardByte_58 rfl (by omega) (by omega) ?_
    refine J.n2i (con_V_times (fac_lt K _) (hda _) _) k_C_shardByte_V_times d_C_shardByte_59 rfl ?_
    refine J.ixorN d_C_shardByte_62 ?_
    refine J.istore_n d_C_shardByte_63 rfl (by decide) rfl ?_
    refine J.iincN d_C_shardByte_64 rfl rfl (by decide) rfl ?_
    refine J.goto d_C_shardByte_67 (tgt := 24) (by decide) ?_
    exact lp_C_shardByte hK hK4 hM hh ht hda j (i + 1) (by omega)
theorem con_C_shardByte {h t : Nat} (hK : 0 < K) (hK4 : K ≤ 4) (hM : Mo ≤ 3) (hh : h < K + Mo) (ht : t < 4) (hda : ∀ i, da i < 256) : Con l i_C_shardByte [.ref 1, .int (nI h), .int (nI t)] (CM K Mo dr dl ou ol da eq al fr tk by_ ln pl X) (.inl (some (.int (nI (sb K da h t))), (CM K Mo dr dl ou ol da eq al fr tk by_ ln pl X))) := by
  refine Con.of ?_
  refine J.iload_n d_C_shardByte_0 rfl rfl ?_
  refine J.aload_n d_C_shardByte_1 rfl rfl ?_
  refine J.getfield d_C_shardByte_2 fl_C_9 rfl rfl ?_
  refine J.icmp_geN d_C_shardByte_5 (tgt := 19) (by decide) (by omega) (by omega) (fun h1 => ?_) (fun h1 => ?_)
  · rw [show sb K da h t = wk K da h t K by unfold sb; rw [if_neg (by omega)]]
    refine J.iconst d_C_shardByte_19 (v := nI 0) (by decide) ?_
    refine J.istore_n d_C_shardByte_20 rfl (by decide) rfl ?_
    refine J.iconst d_C_shardByte_21 (v := nI 0) (by decide) ?_
    refine J.istore d_C_shardByte_22 (by decide) rfl ?_
    exact lp_C_shardByte hK hK4 hM hh ht hda K 0 (by omega)
  · rw [show sb K da h t = da (h * 4 + t) by unfold sb; rw [if_pos (by omega)]]
    refine J.aload_n d_C_shardByte_8 rfl rfl ?_
    refine J.getfield d_C_shardByte_9 fl_C_21 rfl rfl ?_
    refine J.iload_n d_C_shardByte_12 rfl rfl ?_
    refine J.iconst d_C_shardByte_13 (v := nI 4) (by decide) ?_
    refine J.imulN d_C_shardByte_14 ?_
    refine J.iload_n d_C_shardByte_15 rfl rfl ?_
    refine J.iaddN d_C_shardByte_16 ?_
    refine J.ialoadN d_C_shardByte_17 rfl (by omega) (by omega) ?_
    exact J.ireturn d_C_shardByte_18 rfl (by decide) (by decide)
theorem cp_C : Cond.methodLink NC 43 arraycopyName ∈ lw_tbl := by decide +kernel
theorem con_C_setEquation {line h : Nat} (hK : 0 < K) (hK4 : K ≤ 4) (hM : Mo ≤ 3) (hh : h < K + Mo) (hl : line < K) : Con l i_C_setEquation [.ref 1, .int (nI line), .int (nI h)] (CM K Mo dr dl ou ol da eq al fr tk by_ ln pl X) (.inl (none, (CM K Mo dr dl ou ol da (va_cpy (fac K) eq (h * K) (line * K) K) al fr tk by_ ln pl X))) := by
  have h1 := mulb (n := K) hh (show K - 1 < K by omega)
  have h2 := mulb (n := K) hl (show K - 1 < K by omega)
  have hx4 : (K + Mo) * K ≤ 7 * 4 := Nat.mul_le_mul (by omega) hK4
  have hy4 : K * K ≤ 4 * 4 := Nat.mul_le_mul hK4 hK4
  refine Con.of ?_
  refine J.aload_n d_C_setEquation_0 rfl rfl ?_
  refine J.getfield d_C_setEquation_1 fl_C_28 rfl rfl ?_
  refine J.iload_n d_C_setEquation_4 rfl rfl ?_
  refine J.aload_n d_C_setEquation_5 rfl rfl ?_
  refine J.getfield d_C_setEquation_6 fl_C_9 rfl rfl ?_
  refine J.imulN d_C_setEquation_9 ?_
  refine J.aload_n d_C_setEquation_10 rfl rfl ?_
  refine J.getfield d_C_setEquation_11 fl_C_25 rfl rfl ?_
  refine J.iload_n d_C_setEquation_14 rfl rfl ?_
  refine J.aload_n d_C_setEquation_15 rfl rfl ?_
  refine J.getfield d_C_setEquation_16 fl_C_9 rfl rfl ?_
  refine J.imulN d_C_setEquation_19 ?_
  refine J.aload_n d_C_setEquation_20 rfl rfl ?_
  refine J.getfield d_C_setEquation_21 fl_C_9 rfl rfl ?_
  refine J.copyN d_C_setEquation_24 cp_C cp_n cp_s cp_i rfl rfl (by omega) (by omega) (by omega) (by omega) (by decide) (by decide) ?_
  exact J.vreturn d_C_setEquation_27 rfl (by decide) (by decide)
end CODER
end
section
/-! The class's solving of a stripe's equations -/
section SOLVE
variable {l : Launch} {K Mo dl ol : Nat} {dr ou da eq al fr tk by_ ln pl : Nat → Nat} {X : List va_E}
theorem dm_div {a b n : Nat} (hb : b < n) : (a * n + b) / n = a := by
  rw [Nat.add_comm, Nat.add_mul_div_right _ _ (by omega), Nat.div_eq_of_lt hb, Nat.zero_add]
theorem dm_mod {a b n : Nat} (hb : b < n) : (a * n + b) % n = b := by
  rw [Nat.add_comm, Nat.add_mul_mod_self_right, Nat.mod_eq_of_lt hb]
theorem dm_ne {a b n q : Nat} (h : ¬ q = a * n + b) : ¬ (q / n = a ∧ q % n = b) := by
  rintro ⟨h1, h2⟩
  have := Nat.div_add_mod q n
  rw [h1, h2, Nat.mul_comm] at this
  exact h this.symm
/-- a row's first n columns times f -/
def mulR (N : Nat) (eq : Nat → Nat) (line f n : Nat) : Nat → Nat := fun i => if i / N = line ∧ i % N < n then gm (eq i) f else eq i
theorem mulR_0 (N : Nat) (eq : Nat → Nat) (line f : Nat) : mulR N eq line f 0 = eq := by funext i; simp [mulR]
theorem mulR_at {N : Nat} {eq : Nat → Nat} {line f n : Nat} (hn : n < N) : mulR N eq line f n (line * N + n) = eq (line * N + n) := by
  simp [mulR, dm_mod hn]
theorem mulR_up {N : Nat} {eq : Nat → Nat} {line f n : Nat} (hn : n < N) : up (mulR N eq line f n) (line * N + n) (gm (eq (line * N + n)) f) = mulR N eq line f (n + 1) := by
  funext q
  by_cases hq : q = line * N + n
  · subst hq; simp [up, mulR, dm_mod hn, dm_div hn]
  · have h9 := dm_ne hq
    simp only [up, mulR, if_neg hq]
    have : (q / N = line ∧ q % N < n + 1) ↔ (q / N = line ∧ q % N < n) := by
      constructor
      · rintro ⟨a, b⟩; exact ⟨a, by rcases Nat.lt_or_ge (q % N) n with z | z; exact z; exact absurd ⟨a, by omega⟩ h9⟩
      · rintro ⟨a, b⟩; exact ⟨a, by omega⟩
    simp only [this]
theorem mulR_lt {N : Nat} {eq : Nat → Nat} {line f n : Nat} (h : ∀ i, eq i < 256) (i : Nat) : mulR N eq line f n i < 256 := by
  unfold mulR; split
  · exact gm_lt (h i)
  · exact h i
/-- .. and f times another row added -/
def addR (N : Nat) (eq : Nat → Nat) (line src f n : Nat) : Nat → Nat := fun i => if i / N = line ∧ i % N < n then eq i ^^^ gm (eq (src * N + i % N)) f else eq i
theorem addR_0 (N : Nat) (eq : Nat → Nat) (line src f : Nat) : addR N eq line src f 0 = eq := by funext i; simp [addR]
theorem addR_at {N : Nat} {eq : Nat → Nat} {line src f n : Nat} (hn : n < N) : addR N eq line src f n (line * N + n) = eq (line * N + n) := by
  simp [addR, dm_mod hn]
theorem addR_src {N : Nat} {eq : Nat → Nat} {line src f n c : Nat} (hc : c < N) (hne : line ≠ src) : addR N eq line src f n (src * N + c) = eq (src * N + c) := by
  simp only [addR, dm_div hc]; rw [if_neg (fun h => hne h.1.symm)]
theorem addR_up {N : Nat} {eq : Nat → Nat} {line src f n : Nat} (hn : n < N) : up (addR N eq line src f n) (line * N + n) (eq (line * N + n) ^^^ gm (eq (src * N + n)) f) = addR N eq line src f (n + 1) := by
  funext q
  by_cases hq : q = line * N + n
  · subst hq; simp [up, addR, dm_mod hn, dm_div hn]
  · have h9 := dm_ne hq
    simp only [up, addR, if_neg hq]
    have : (q / N = line ∧ q % N < n + 1) ↔ (q / N = line ∧ q % N < n) := by
      constructor
      · rintro ⟨a, b⟩; exact ⟨a, by rcases Nat.lt_or_ge (q % N) n with z | z; exact z; exact absurd ⟨a, by omega⟩ h9⟩
      · rintro ⟨a, b⟩; exact ⟨a, by omega⟩
    simp only [this]
theorem addR_lt {N : Nat} {eq : Nat → Nat} {line src f n : Nat} (h : ∀ i, eq i < 256) (i : Nat) : addR N eq line src f n i < 256 := by
  unfold addR; split
  · exact xor_lt (h i) (gm_lt (h _))
  · exact h i
theorem lp_C_mul1 {line f : Nat} (hK : 0 < K) (hK4 : K ≤ 4) (hl : line < K) (hf : f < 256) (he : ∀ i, eq i < 256) {out : Out}
    (kk : ∀ lv, lv = [(0, Value.ref 1), (1, .int (nI line)), (2, .int (nI f)), (3, .int (nI K))] ∨ (∃ x, lv = [(0, Value.ref 1), (1, .int (nI line)), (2, .int (nI f)), (3, .int (nI K)), (4, .int (nI x))]) → J l i_C_multiplyLine 44 lv [] (CM K Mo dr dl ou ol da (mulR K eq line f K) al fr tk by_ ln pl X) 0 0 out) : ∀ (j i : Nat), i + j = K → ∀ lv, lv = [(0, Value.ref 1), (1, .int (nI line)), (2, .int (nI f)), (3, .int (nI i))] ∨ (∃ x, lv = [(0, Value.ref 1), (1, .int (nI line)), (2, .int (nI f)), (3, .int (nI i)), (4, .int (nI x))]) →
    J l i_C_multiplyLine 2 lv [] (CM K Mo dr dl ou ol da (mulR K eq line f i) al fr tk by_ ln pl X) 0 0 out
  | 0, i, hi, lv, hlv => by
    have hi' : i = K := by omega
    subst hi'
    rcases hlv with rfl | ⟨x, rfl⟩
    · refine J.iload_n d_C_multiplyLine_2 rfl rfl ?_
      refine J.aload_n d_C_multiplyLine_3 rfl rfl ?_
      refine J.getfield d_C_multiplyLine_4 fl_C_9 rfl rfl ?_
      refine J.icmp_geN d_C_multiplyLine_7 (tgt := 44) (by decide) (by omega) (by omega) (fun h => ?_) (fun h => ?_)
      · exact kk _ (Or.inl rfl)
      · omega
    · refine J.iload_n d_C_multiplyLine_2 rfl rfl ?_
      refine J.aload_n d_C_multiplyLine_3 rfl rfl ?_
      refine J.getfield d_C_multiplyLine_4 fl_C_9 rfl rfl ?_
      refine J.icmp_geN d_C_multiplyLine_7 (tgt := 44) (by decide) (by omega) (by omega) (fun h => ?_) (fun h => ?_)
      · exact kk _ (Or.inr ⟨x, rfl⟩)
      · omega
  | j + 1, i, hi, lv, hlv => by
    have hx := mulb hl (show i < K by omega)
    have hy4 : K * K ≤ 4 * 4 := Nat.mul_le_mul hK4 hK4
    have hin : i < K := by omega
    have ih := lp_C_mul1 hK hK4 hl hf he kk j (i + 1) (by omega) _ (Or.inr ⟨line * K + i, rfl⟩)
    rw [← mulR_up hin] at ih
    rcases hlv with rfl | ⟨x, rfl⟩
    · refine J.iload_n d_C_multiplyLine_2 rfl rfl ?_
      refine J.aload_n d_C_multiplyLine_3 rfl rfl ?_
      refine J.getfield d_C_multiplyLine_4 fl_C_9 rfl rfl ?_
      refine J.icmp_geN d_C_multiplyLine_7 (tgt := 44) (by decide) (by omega) (by omega) (fun h => ?_) (fun h => ?_)
      · omega
      refine J.iload_n d_C_multiplyLine_10 rfl rfl ?_
      refine J.aload_n d_C_multiplyLine_11 rfl rfl ?_
      refine J.getfield d_C_multiplyLine_12 fl_C_9 rfl rfl ?_
      refine J.imulN d_C_multiplyLine_15 ?_
      refine J.iload_n d_C_multiplyLine_16 rfl rfl ?_
      refine J.iaddN d_C_multiplyLine_17 ?_
      refine J.istore d_C_multiplyLine_18 (by decide) rfl ?_
      refine J.aload_n d_C_multiplyLine_20 rfl rfl ?_
      refine J.getfield d_C_multiplyLine_21 fl_C_25 rfl rfl ?_
      refine J.iload d_C_multiplyLine_24 rfl ?_
      refine J.aload_n d_C_multiplyLine_26 rfl rfl ?_
      refine J.getfield d_C_multiplyLine_27 fl_C_25 rfl rfl ?_
      refine J.iload d_C_multiplyLine_30 rfl ?_
      refine J.ialoadN d_C_multiplyLine_32 rfl (by omega) (by omega) ?_
      refine J.iload_n d_C_multiplyLine_33 rfl rfl ?_
      rw [mulR_at hin]
      refine J.n2i (con_V_times (he _) hf _) k_C_multiplyLine_V_times d_C_multiplyLine_34 rfl ?_
      refine J.iastoreN d_C_multiplyLine_37 rfl (by omega) (by omega) ?_
      refine J.iincN d_C_multiplyLine_38 rfl rfl (by decide) rfl ?_
      refine J.goto d_C_multiplyLine_41 (tgt := 2) (by decide) ?_
      exact ih
    · refine J.iload_n d_C_multiplyLine_2 rfl rfl ?_
      refine J.aload_n d_C_multiplyLine_3 rfl rfl ?_
      refine J.getfield d_C_multiplyLine_4 fl_C_9 rfl rfl ?_
      refine J.icmp_geN d_C_multiplyLine_7 (tgt := 44) (by decide) (by omega) (by omega) (fun h => ?_) (fun h => ?_)
      · omega
      refine J.iload_n d_C_multiplyLine_10 rfl rfl ?_
      refine J.aload_n d_C_multiplyLine_11 rfl rfl ?_
      refine J.getfield d_C_multiplyLine_12 fl_C_9 rfl rfl ?_
      refine J.imulN d_C_multiplyLine_15 ?_
      refine J.iload_n d_C_multiplyLine_16 rfl rfl ?_
      refine J.iaddN d_C_multiplyLine_17 ?_
      refine J.istore d_C_multiplyLine_18 (by decide) rfl ?_
      refine J.aload_n d_C_multiplyLine_20 rfl rfl ?_
      refine J.getfield d_C_multiplyLine_21 fl_C_25 rfl rfl ?_
      refine J.iload d_C_multiplyLine_24 rfl ?_
      refine J.aload_n d_C_multiplyLine_26 rfl rfl ?_
      refine J.getfield d_C_multiplyLine_27 fl_C_25 rfl rfl ?_
      refine J.iload d_C_multiplyLine_30 rfl ?_
      refine J.ialoadN d_C_multiplyLine_32 rfl (by omega) (by omega) ?_
      refine J.iload_n d_C_multiplyLine_33 rfl rfl ?_
      rw [mulR_at hin]
      refine J.n2i (con_V_times (he _) hf _) k_C_multiplyLine_V_times d_C_multiplyLine_34 rfl ?_
      refine J.iastoreN d_C_multiplyLine_37 rfl (by omega) (by omega) ?_
      refine J.iincN d_C_multiplyLine_38 rfl rfl (by decide) rfl ?_
      refine J.goto d_C_multiplyLine_41 (tgt := 2) (by decide) ?_
      exact ih
theorem lp_C_mul2 {line f : Nat} (hK : 0 < K) (hK4 : K ≤ 4) (hl : line < K) (hf : f < 256) (hda : ∀ i, da i < 256) : ∀ (j i : Nat), i + j = 4 → ∀ lv, lv = [(0, Value.ref 1), (1, .int (nI line)), (2, .int (nI f)), (3, .int (nI i))] ∨ (∃ x, lv = [(0, Value.ref 1), (1, .int (nI line)), (2, .int (nI f)), (3, .int (nI i)), (4, .int (nI x))]) →
    J l i_C_multiplyLine 46 lv [] (CM K Mo dr dl ou ol (mulR 4 da line f i) eq al fr tk by_ ln pl X) 0 0 (.inl (none, (CM K Mo dr dl ou ol (mulR 4 da line f 4) eq al fr tk by_ ln pl X)))
  | 0, i, hi, lv, hlv => by
    have hi' : i = 4 := by omega
    subst hi'
    rcases hlv with rfl | ⟨x, rfl⟩
    · refine J.iload_n d_C_multiplyLine_46 rfl rfl ?_
      refine J.iconst d_C_multiplyLine_47 (v := nI 4) (by decide) ?_
      refine J.icmp_geN d_C_multiplyLine_48 (tgt := 82) (by decide) (by omega) (by omega) (fun h => ?_) (fun h => ?_)
      · exact J.vreturn d_C_multiplyLine_82 rfl (by decide) (by decide)
      · omega
    · refine J.iload_n d_C_multiplyLine_46 rfl rfl ?_
      refine J.iconst d_C_multiplyLine_47 (v := nI 4) (by decide) ?_
      refine J.icmp_geN d_C_multiplyLine_48 (tgt := 82) (by decide) (by omega) (by omega) (fun h => ?_) (fun h => ?_)
      · exact J.vreturn d_C_multiplyLine_82 rfl (by decide) (by decide)
      · omega
  | j + 1, i, hi, lv, hlv => by
    have hin : i < 4 := by omega
    have ih := lp_C_mul2 hK hK4 hl hf hda j (i + 1) (by omega) _ (Or.inr ⟨line * 4 + i, rfl⟩)
    rw [← mulR_up hin] at ih
    rcases hlv with rfl | ⟨x, rfl⟩
    · refine J.iload_n d_C_multiplyLine_46 rfl rfl ?_
      refine J.iconst d_C_multiplyLine_47 (v := nI 4) (by decide) ?_
      refine J.icmp_geN d_C_multiplyLine_48 (tgt := 82) (by decide) (by omega) (by omega) (fun h => ?_) (fun h => ?_)
      · omega
      refine J.iload_n d_C_multiplyLine_51 rfl rfl ?_
      refine J.iconst d_C_multiplyLine_52 (v := nI 4) (by decide) ?_
      refine J.imulN d_C_multiplyLine_53 ?_
      refine J.iload_n d_C_multiplyLine_54 rfl rfl ?_
      refine J.iaddN d_C_multiplyLine_55 ?_
      refine J.istore d_C_multiplyLine_56 (by decide) rfl ?_
      refine J.aload_n d_C_multiplyLine_58 rfl rfl ?_
      refine J.getfield d_C_multiplyLine_59 fl_C_21 rfl rfl ?_
      refine J.iload d_C_multiplyLine_62 rfl ?_
      refine J.aload_n d_C_multiplyLine_64 rfl rfl ?_
      refine J.getfield d_C_multiplyLine_65 fl_C_21 rfl rfl ?_
      refine J.iload d_C_multiplyLine_68 rfl ?_
      refine J.ialoadN d_C_multiplyLine_70 rfl (by omega) (by omega) ?_
      refine J.iload_n d_C_multiplyLine_71 rfl rfl ?_
      rw [mulR_at hin]
      refine J.n2i (con_V_times (hda _) hf _) k_C_multiplyLine_V_times d_C_multiplyLine_72 rfl ?_
      refine J.iastoreN d_C_multiplyLine_75 rfl (by omega) (by omega) ?_
      refine J.iincN d_C_multiplyLine_76 rfl rfl (by decide) rfl ?_
      refine J.goto d_C_multiplyLine_79 (tgt := 46) (by decide) ?_
      exact ih
    · refine J.iload_n d_C_multiplyLine_46 rfl rfl ?_
      refine J.iconst d_C_multiplyLine_47 (v := nI 4) (by decide) ?_
      refine J.icmp_geN d_C_multiplyLine_48 (tgt := 82) (by decide) (by omega) (by omega) (fun h => ?_) (fun h => ?_)
      · omega
      refine J.iload_n d_C_multiplyLine_51 rfl rfl ?_
      refine J.iconst d_C_multiplyLine_52 (v := nI 4) (by decide) ?_
      refine J.imulN d_C_multiplyLine_53 ?_
      refine J.iload_n d_C_multiplyLine_54 rfl rfl ?_
      refine J.iaddN d_C_multiplyLine_55 ?_
      refine J.istore d_C_multiplyLine_56 (by decide) rfl ?_
      refine J.aload_n d_C_multiplyLine_58 rfl rfl ?_
      refine J.getfield d_C_multiplyLine_59 fl_C_21 rfl rfl ?_
      refine J.iload d_C_multiplyLine_62 rfl ?_
      refine J.aload_n d_C_multiplyLine_64 rfl rfl ?_
      refine J.getfield d_C_multiplyLine_65 fl_C_21 rfl rfl ?_
      refine J.iload d_C_multiplyLine_68 rfl ?_
      refine J.ialoadN d_C_multiplyLine_70 rfl (by omega) (by omega) ?_
      refine J.iload_n d_C_multiplyLine_71 rfl rfl ?_
      rw [mulR_at hin]
      refine J.n2i (con_V_times (hda _) hf _) k_C_multiplyLine_V_times d_C_multiplyLine_72 rfl ?_
      refine J.iastoreN d_C_multiplyLine_75 rfl (by omega) (by omega) ?_
      refine J.iincN d_C_multiplyLine_76 rfl rfl (by decide) rfl ?_
      refine J.goto d_C_multiplyLine_79 (tgt := 46) (by decide) ?_
      exact ih
theorem con_C_multiplyLine {line f : Nat} (hK : 0 < K) (hK4 : K ≤ 4) (hl : line < K) (hf : f < 256) (he : ∀ i, eq i < 256) (hda : ∀ i, da i < 256) : Con l i_C_multiplyLine [.ref 1, .int (nI line), .int (nI f)] (CM K Mo dr dl ou ol da eq al fr tk by_ ln pl X) (.inl (none, (CM K Mo dr dl ou ol (mulR 4 da line f 4) (mulR K eq line f K) al fr tk by_ ln pl X))) := by
  refine Con.of ?_
  refine J.iconst d_C_multiplyLine_0 (v := nI 0) (by decide) ?_
  refine J.istore_n d_C_multiplyLine_1 rfl (by decide) rfl ?_
  have h1 := lp_C_mul1 (l := l) (Mo := Mo) (dl := dl) (ol := ol) (dr := dr) (ou := ou) (da := da) (al := al) (fr := fr) (tk := tk) (by_ := by_) (ln := ln) (pl := pl) (X := X) (out := .inl (none, (CM K Mo dr dl ou ol (mulR 4 da line f 4) (mulR K eq line f K) al fr tk by_ ln pl X))) hK hK4 hl hf he ?_ K 0 (by omega) _ (Or.inl rfl)
  · rw [mulR_0] at h1
    exact h1
  · intro lv hlv
    have h2 := fun lv h => lp_C_mul2 (l := l) (Mo := Mo) (dl := dl) (ol := ol) (dr := dr) (ou := ou) (eq := mulR K eq line f K) (al := al) (fr := fr) (tk := tk) (by_ := by_) (ln := ln) (pl := pl) (X := X) hK hK4 hl hf hda 4 0 (by omega) lv h
    rw [mulR_0] at h2
    rcases hlv with rfl | ⟨x, rfl⟩
    · refine J.iconst d_C_multiplyLine_44 (v := nI 0) (by decide) ?_
      refine J.istore_n d_C_multiplyLine_45 rfl (by decide) rfl ?_
      exact h2 _ (Or.inl rfl)
    · refine J.iconst d_C_multiplyLine_44 (v := nI 0) (by decide) ?_
      refine J.istore_n d_C_multiplyLine_45 rfl (by decide) rfl ?_
      exact h2 _ (Or.inr ⟨x, rfl⟩)
theorem lp_C_add1 {line src f : Nat} (hK : 0 < K) (hK4 : K ≤ 4) (hl : line < K) (hs : src < K) (hne : line ≠ src) (hf : f < 256) (he : ∀ i, eq i < 256) {out : Out}
    (kk : J l i_C_addLine 53 [(0, Value.ref 1), (1, .int (nI line)), (2, .int (nI src)), (3, .int (nI f)), (4, .int (nI K))] [] (CM K Mo dr dl ou ol da (addR K eq line src f K) al fr tk by_ ln pl X) 0 0 out) : ∀ (j i : Nat), i + j = K →
    J l i_C_addLine 3 [(0, Value.ref 1), (1, .int (nI line)), (2, .int (nI src)), (3, .int (nI f)), (4, .int (nI i))] [] (CM K Mo dr dl ou ol da (addR K eq line src f i) al fr tk by_ ln pl X) 0 0 out
  | 0, i, hi => by
    have hi' : i = K := by omega
    subst hi'
    refine J.iload d_C_addLine_3 rfl ?_
    refine J.aload_n d_C_addLine_5 rfl rfl ?_
    refine J.getfield d_C_addLine_6 fl_C_9 rfl rfl ?_
    refine J.icmp_geN d_C_addLine_9 (tgt := 53) (by decide) (by omega) (by omega) (fun h => ?_) (fun h => ?_)
    · exact kk
    · omega
  | j + 1, i, hi => by
    have hin : i < K := by omega
    have hx := mulb hl hin
    have hx2 := mulb hs hin
    have hy4 : K * K ≤ 4 * 4 := Nat.mul_le_mul hK4 hK4
    have ih := lp_C_add1 hK hK4 hl hs hne hf he kk j (i + 1) (by omega)
    rw [← addR_up hin] at ih
    refine J.iload d_C_addLine_3 rfl ?_
    refine J.aload_n d_C_addLine_5 rfl rfl ?_
    refine J.getfield d_C_addLine_6 fl_C_9 rfl rfl ?_
    refine J.icmp_geN d_C_addLine_9 (tgt := 53) (by decide) (by omega) (by omega) (fun h => ?_) (fun h => ?_)
    · omega
    refine J.aload_n d_C_addLine_12 rfl rfl ?_
    refine J.getfield d_C_addLine_13 fl_C_25 rfl rfl ?_
    refine J.iload_n d_C_addLine_16 rfl rfl ?_
    refine J.aload_n d_C_addLine_17 rfl rfl ?_
    refine J.getfield d_C_addLine_18 fl_C_9 rfl rfl ?_
    refine J.imulN d_C_addLine_21 ?_
    refine J.iload d_C_addLine_22 rfl ?_
    refine J.iaddN d_C_addLine_24 ?_
    refine J.dup2 d_C_addLine_25 rfl rfl ?_
    refine J.ialoadN d_C_addLine_26 rfl (by omega) (by omega) ?_
    refine J.aload_n d_C_addLine_27 rfl rfl ?_
    refine J.getfield d_C_addLine_28 fl_C_25 rfl rfl ?_
    refine J.iload_n d_C_addLine_31 rfl rfl ?_
    refine J.aload_n d_C_addLine_32 rfl rfl ?_
    refine J.getfield d_C_addLine_33 fl_C_9 rfl rfl ?_
    refine J.imulN d_C_addLine_36 ?_
    refine J.iload d_C_addLine_37 rfl ?_
    refine J.iaddN d_C_addLine_39 ?_
    refine J.ialoadN d_C_addLine_40 rfl (by omega) (by omega) ?_
    refine J.iload_n d_C_addLine_41 rfl rfl ?_
    rw [addR_at hin, addR_src hin hne]
    refine J.n2i (con_V_times (he _) hf _) k_C_addLine_V_times d_C_addLine_42 rfl ?_
    refine J.ixorN d_C_addLine_45 ?_
    refine J.iastoreN d_C_addLine_46 rfl (by omega) (by omega) ?_
    refine J.iincN d_C_addLine_47 rfl rfl (by decide) rfl ?_
    refine J.goto d_C_addLine_50 (tgt := 3) (by decide) ?_
    exact ih
theorem lp_C_add2 {line src f : Nat} (hK : 0 < K) (hK4 : K ≤ 4) (hl : line < K) (hs : src < K) (hne : line ≠ src) (hf : f < 256) (hda : ∀ i, da i < 256) : ∀ (j i : Nat), i + j = 4 →
    J l i_C_addLine 56 [(0, Value.ref 1), (1, .int (nI line)), (2, .int (nI src)), (3, .int (nI f)), (4, .int (nI i))] [] (CM K Mo dr dl ou ol (addR 4 da line src f i) eq al fr tk by_ ln pl X) 0 0 (.inl (none, (CM K Mo dr dl ou ol (addR 4 da line src f 4) eq al fr tk by_ ln pl X)))
  | 0, i, hi => by
    have hi' : i = 4 := by omega
    subst hi'
    refine J.iload d_C_addLine_56 rfl ?_
    refine J.iconst d_C_addLine_58 (v := nI 4) (by decide) ?_
    refine J.icmp_geN d_C_addLine_59 (tgt := 97) (by decide) (by omega) (by omega) (fun h => ?_) (fun h => ?_)
    · exact J.vreturn d_C_addLine_97 rfl (by decide) (by decide)
    · omega
  | j + 1, i, hi => by
    have hin : i < 4 := by omega
    have ih := lp_C_add2 hK hK4 hl hs hne hf hda j (i + 1) (by omega)
    rw [← addR_up hin] at ih
    refine J.iload d_C_addLine_56 rfl ?_
    refine J.iconst d_C_addLine_58 (v := nI 4) (by decide) ?_
    refine J.icmp_geN d_C_addLine_59 (tgt := 97) (by decide) (by omega) (by omega) (fun h => ?_) (fun h => ?_)
    · omega
    refine J.aload_n d_C_addLine_62 rfl rfl ?_
    refine J.getfield d_C_addLine_63 fl_C_21 rfl rfl ?_
    refine J.iload_n d_C_addLine_66 rfl rfl ?_
    refine J.iconst d_C_addLine_67 (v := nI 4) (by decide) ?_
    refine J.imulN d_C_addLine_68 ?_
    refine J.iload d_C_addLine_69 rfl ?_
    refine J.iaddN d_C_addLine_71 ?_
    refine J.dup2 d_C_addLine_72 rfl rfl ?_
    refine J.ialoadN d_C_addLine_73 rfl (by omega) (by omega) ?_
    refine J.aload_n d_C_addLine_74 rfl rfl ?_
    refine J.getfield d_C_addLine_75 fl_C_21 rfl rfl ?_
    refine J.iload_n d_C_addLine_78 rfl rfl ?_
    refine J.iconst d_C_addLine_79 (v := nI 4) (by decide) ?_
    refine J.imulN d_C_addLine_80 ?_
    refine J.iload d_C_addLine_81 rfl ?_
    refine J.iaddN d_C_addLine_83 ?_
    refine J.ialoadN d_C_addLine_84 rfl (by omega) (by omega) ?_
    refine J.iload_n d_C_addLine_85 rfl rfl ?_
    rw [addR_at hin, addR_src hin hne]
    refine J.n2i (con_V_times (hda _) hf _) k_C_addLine_V_times d_C_addLine_86 rfl ?_
    refine J.ixorN d_C_addLine_89 ?_
    refine J.iastoreN d_C_addLine_90 rfl (by omega) (by omega) ?_
    refine J.iincN d_C_addLine_91 rfl rfl (by decide) rfl ?_
    refine J.goto d_C_addLine_94 (tgt := 56) (by decide) ?_
    exact ih
theorem con_C_addLine {line src f : Nat} (hK : 0 < K) (hK4 : K ≤ 4) (hl : line < K) (hs : src < K) (hne : line ≠ src) (hf : f < 256) (he : ∀ i, eq i < 256) (hda : ∀ i, da i < 256) : Con l i_C_addLine [.ref 1, .int (nI line), .int (nI src), .int (nI f)] (CM K Mo dr dl ou ol da eq al fr tk by_ ln pl X) (.inl (none, (CM K Mo dr dl ou ol (addR 4 da line src f 4) (addR K eq line src f K) al fr tk by_ ln pl X))) := by
  refine Con.of ?_
  refine J.iconst d_C_addLine_0 (v := nI 0) (by decide) ?_
  refine J.istore d_C_addLine_1 (by decide) rfl ?_
  have h1 := lp_C_add1 (l := l) (Mo := Mo) (dl := dl) (ol := ol) (dr := dr) (ou := ou) (da := da) (al := al) (fr := fr) (tk := tk) (by_ := by_) (ln := ln) (pl := pl) (X := X) (out := .inl (none, (CM K Mo dr dl ou ol (addR 4 da line src f 4) (addR K eq line src f K) al fr tk by_ ln pl X))) hK hK4 hl hs hne hf he ?_ K 0 (by omega)
  · rw [addR_0] at h1
    exact h1
  · have h2 := lp_C_add2 (l := l) (Mo := Mo) (dl := dl) (ol := ol) (dr := dr) (ou := ou) (eq := addR K eq line src f K) (al := al) (fr := fr) (tk := tk) (by_ := by_) (ln := ln) (pl := pl) (X := X) hK hK4 hl hs hne hf hda 4 0 (by omega)
    rw [addR_0] at h2
    refine J.iconst d_C_addLine_53 (v := nI 0) (by decide) ?_
    refine J.istore d_C_addLine_54 (by decide) rfl ?_
    exact h2
end SOLVE
end
section
/-! The class's solving, whole -/
section CSOLVE
variable {l : Launch} {K Mo dl ol : Nat} {dr ou da eq al fr tk by_ ln pl : Nat → Nat} {X : List va_E}
abbrev ED : Type := (Nat → Nat) × (Nat → Nat)
def lnS (K p line : Nat) (x : ED) : ED := if line = p ∨ x.1 (line * K + p) = 0 then x else (addR K x.1 line p (x.1 (line * K + p)) K, addR 4 x.2 line p (x.1 (line * K + p)) 4)
def lns (K p : Nat) : Nat → ED → ED
  | 0, x => x
  | n + 1, x => lnS K p n (lns K p n x)
def pvS (K p : Nat) (x : ED) : ED := lns K p K (mulR K x.1 p (gi (x.1 (p * K + p))) K, mulR 4 x.2 p (gi (x.1 (p * K + p))) 4)
def pvs (K : Nat) : Nat → ED → ED
  | 0, x => x
  | n + 1, x => pvS K n (pvs K n x)
def b256 (x : ED) : Prop := (∀ i, x.1 i < 256) ∧ ∀ i, x.2 i < 256
theorem lnS_b {K p line : Nat} {x : ED} (h : b256 x) : b256 (lnS K p line x) := by
  unfold lnS; split
  · exact h
  · exact ⟨addR_lt h.1, addR_lt h.2⟩
theorem lns_b {K p : Nat} {x : ED} (h : b256 x) : ∀ n, b256 (lns K p n x)
  | 0 => h
  | n + 1 => lnS_b (lns_b h n)
theorem pvS_b {K p : Nat} {x : ED} (h : b256 x) : b256 (pvS K p x) := lns_b ⟨mulR_lt h.1, mulR_lt h.2⟩ K
theorem pvs_b {K : Nat} {x : ED} (h : b256 x) : ∀ n, b256 (pvs K n x)
  | 0 => h
  | n + 1 => pvS_b (pvs_b h n)
theorem lp_C_sol2 {p : Nat} {x : ED} (hK : 0 < K) (hK4 : K ≤ 4) (hp : p < K) (hb : b256 x) {out : Out}
    (kk : J l i_C_solve 77 [(0, Value.ref 1), (1, .int (nI p))] [] (CM K Mo dr dl ou ol ((lns K p K x).2) ((lns K p K x).1) al fr tk by_ ln pl X) 0 0 out) : ∀ (j i : Nat), i + j = K →
    J l i_C_solve 33 [(0, Value.ref 1), (1, .int (nI p)), (2, .int (nI i))] [] (CM K Mo dr dl ou ol ((lns K p i x).2) ((lns K p i x).1) al fr tk by_ ln pl X) 0 0 out
  | 0, i, hi => by
    have hi' : i = K := by omega
    subst hi'
    refine J.iload_n d_C_solve_33 rfl rfl ?_
    refine J.aload_n d_C_solve_34 rfl rfl ?_
    refine J.getfield d_C_solve_35 fl_C_9 rfl rfl ?_
    refine J.icmp_geN d_C_solve_38 (tgt := 77) (by decide) (by omega) (by omega) (fun h => ?_) (fun h => ?_)
    · exact J.sub [0, 1] kk
    · omega
  | j + 1, i, hi => by
    have hin : i < K := by omega
    have hx := mulb hin hp
    have hy4 : K * K ≤ 4 * 4 := Nat.mul_le_mul hK4 hK4
    have ih := lp_C_sol2 hK hK4 hp hb kk j (i + 1) (by omega)
    have hbi := lns_b (K := K) (p := p) hb i
    have hf := hbi.1 (i * K + p)
    refine J.iload_n d_C_solve_33 rfl rfl ?_
    refine J.aload_n d_C_solve_34 rfl rfl ?_
    refine J.getfield d_C_solve_35 fl_C_9 rfl rfl ?_
    refine J.icmp_geN d_C_solve_38 (tgt := 77) (by decide) (by omega) (by omega) (fun h => ?_) (fun h => ?_)
    · omega
    refine J.aload_n d_C_solve_41 rfl rfl ?_
    refine J.getfield d_C_solve_42 fl_C_25 rfl rfl ?_
    refine J.iload_n d_C_solve_45 rfl rfl ?_
    refine J.aload_n d_C_solve_46 rfl rfl ?_
    refine J.getfield d_C_solve_47 fl_C_9 rfl rfl ?_
    refine J.imulN d_C_solve_50 ?_
    refine J.iload_n d_C_solve_51 rfl rfl ?_
    refine J.iaddN d_C_solve_52 ?_
    refine J.ialoadN d_C_solve_53 rfl (by omega) (by omega) ?_
    refine J.istore_n d_C_solve_54 rfl (by decide) rfl ?_
    refine J.iload_n d_C_solve_55 rfl rfl ?_
    refine J.iload_n d_C_solve_56 rfl rfl ?_
    refine J.icmp_eqN d_C_solve_57 (tgt := 71) (by decide) (by omega) (by omega) (fun h2 => ?_) (fun h2 => ?_)
    · have e : lns K p (i + 1) x = lns K p i x := by simp [lns, lnS, h2]
      rw [e] at ih
      refine J.iincN d_C_solve_71 rfl rfl (by decide) rfl ?_
      refine J.goto d_C_solve_74 (tgt := 33) (by decide) ?_
      exact J.sub [0, 1, 2] ih
    refine J.iload_n d_C_solve_60 rfl rfl ?_
    refine J.if_eqN d_C_solve_61 (tgt := 71) (by decide) (by omega) (fun h3 => ?_) (fun h3 => ?_)
    · have e : lns K p (i + 1) x = lns K p i x := by simp [lns, lnS, h3]
      rw [e] at ih
      refine J.iincN d_C_solve_71 rfl rfl (by decide) rfl ?_
      refine J.goto d_C_solve_74 (tgt := 33) (by decide) ?_
      exact J.sub [0, 1, 2] ih
    · have e : lns K p (i + 1) x = (addR K (lns K p i x).1 i p ((lns K p i x).1 (i * K + p)) K, addR 4 (lns K p i x).2 i p ((lns K p i x).1 (i * K + p)) 4) := by
        show lnS K p i (lns K p i x) = _
        unfold lnS; rw [if_neg (by omega)]
      rw [e] at ih
      refine J.aload_n d_C_solve_64 rfl rfl ?_
      refine J.iload_n d_C_solve_65 rfl rfl ?_
      refine J.iload_n d_C_solve_66 rfl rfl ?_
      refine J.iload_n d_C_solve_67 rfl rfl ?_
      refine J.v3v (con_C_addLine hK hK4 hin hp h2 hf hbi.1 hbi.2) k_C_solve_C_addLine d_C_solve_68 rfl rfl rfl ?_
      refine J.iincN d_C_solve_71 rfl rfl (by decide) rfl ?_
      refine J.goto d_C_solve_74 (tgt := 33) (by decide) ?_
      exact J.sub [0, 1, 2] ih
theorem lp_C_sol1 {x : ED} (hK : 0 < K) (hK4 : K ≤ 4) (hb : b256 x) : ∀ (j i : Nat), i + j = K →
    J l i_C_solve 2 [(0, Value.ref 1), (1, .int (nI i))] [] (CM K Mo dr dl ou ol ((pvs K i x).2) ((pvs K i x).1) al fr tk by_ ln pl X) 0 0 (.inl (none, (CM K Mo dr dl ou ol ((pvs K K x).2) ((pvs K K x).1) al fr tk by_ ln pl X)))
  | 0, i, hi => by
    have hi' : i = K := by omega
    subst hi'
    refine J.iload_n d_C_solve_2 rfl rfl ?_
    refine J.aload_n d_C_solve_3 rfl rfl ?_
    refine J.getfield d_C_solve_4 fl_C_9 rfl rfl ?_
    refine J.icmp_geN d_C_solve_7 (tgt := 83) (by decide) (by omega) (by omega) (fun h => ?_) (fun h => ?_)
    · exact J.vreturn d_C_solve_83 rfl (by decide) (by decide)
    · omega
  | j + 1, i, hi => by
    have hin : i < K := by omega
    have hx := mulb hin hin
    have hy4 : K * K ≤ 4 * 4 := Nat.mul_le_mul hK4 hK4
    have ih := lp_C_sol1 hK hK4 hb j (i + 1) (by omega)
    have hbi := pvs_b (K := K) hb i
    have hf := hbi.1 (i * K + i)
    refine J.iload_n d_C_solve_2 rfl rfl ?_
    refine J.aload_n d_C_solve_3 rfl rfl ?_
    refine J.getfield d_C_solve_4 fl_C_9 rfl rfl ?_
    refine J.icmp_geN d_C_solve_7 (tgt := 83) (by decide) (by omega) (by omega) (fun h => ?_) (fun h => ?_)
    · omega
    refine J.aload_n d_C_solve_10 rfl rfl ?_
    refine J.iload_n d_C_solve_11 rfl rfl ?_
    refine J.aload_n d_C_solve_12 rfl rfl ?_
    refine J.getfield d_C_solve_13 fl_C_25 rfl rfl ?_
    refine J.iload_n d_C_solve_16 rfl rfl ?_
    refine J.aload_n d_C_solve_17 rfl rfl ?_
    refine J.getfield d_C_solve_18 fl_C_9 rfl rfl ?_
    refine J.imulN d_C_solve_21 ?_
    refine J.iload_n d_C_solve_22 rfl rfl ?_
    refine J.iaddN d_C_solve_23 ?_
    refine J.ialoadN d_C_solve_24 rfl (by omega) (by omega) ?_
    refine J.n1i (con_V_inverse hf _) k_C_solve_V_inverse d_C_solve_25 rfl ?_
    refine J.v2v (con_C_multiplyLine hK hK4 hin (gi_lt _) hbi.1 hbi.2) k_C_solve_C_multiplyLine d_C_solve_28 rfl rfl rfl ?_
    refine J.iconst d_C_solve_31 (v := nI 0) (by decide) ?_
    refine J.istore_n d_C_solve_32 rfl (by decide) rfl ?_
    refine lp_C_sol2 (x := (mulR K (pvs K i x).1 i (gi ((pvs K i x).1 (i * K + i))) K, mulR 4 (pvs K i x).2 i (gi ((pvs K i x).1 (i * K + i))) 4)) hK hK4 hin ⟨mulR_lt hbi.1, mulR_lt hbi.2⟩ ?_ K 0 (by omega)
    refine J.iincN d_C_solve_77 rfl rfl (by decide) rfl ?_
    refine J.goto d_C_solve_80 (tgt := 2) (by decide) ?_
    exact ih
theorem con_C_solve (hK : 0 < K) (hK4 : K ≤ 4) (he : ∀ i, eq i < 256) (hda : ∀ i, da i < 256) : Con l i_C_solve [.ref 1] (CM K Mo dr dl ou ol da eq al fr tk by_ ln pl X) (.inl (none, (CM K Mo dr dl ou ol ((pvs K K (eq, da)).2) ((pvs K K (eq, da)).1) al fr tk by_ ln pl X))) := by
  refine Con.of ?_
  refine J.iconst d_C_solve_0 (v := nI 0) (by decide) ?_
  refine J.istore_n d_C_solve_1 rfl (by decide) rfl ?_
  exact lp_C_sol1 (x := (eq, da)) hK hK4 ⟨he, hda⟩ K 0 (by omega)
end CSOLVE
end
section
/-! The class's places and the reference's: 16 and 10 to a disk, the shards side by side or by seven -/
/-- a place of the reference's (its number plus one, 0: none) as the class has it -/
def tr (x : Nat) : Nat := if x = 0 then 0 else 16 * ((x - 1) / 10) + (x - 1) % 10 + 1
theorem tr_0 : tr 0 = 0 := rfl
theorem tr_s (p : Nat) : tr (p + 1) = 16 * (p / 10) + p % 10 + 1 := by simp [tr]
theorem z1_tr (x : Nat) : z1 (tr x) = z1 x := by
  unfold tr z1
  by_cases h : x = 0
  · simp [h]
  · simp [h]
theorem tr_eq0 {x : Nat} : tr x = 0 ↔ x = 0 := by
  unfold tr
  constructor
  · intro h; split at h
    · assumption
    · omega
  · intro h; simp [h]
def od10 (d x : Nat) : Bool := decide (x ≠ 0) && decide ((x - 1) / 10 = d)
theorem od_tr (d x : Nat) : od d (tr x) = od10 d x := by
  unfold od od10 tr
  by_cases h : x = 0
  · simp [h]
  · simp only [h, if_false, ne_eq, not_false_eq_true, decide_true, Bool.true_and]
    have e2 : ¬ 16 * ((x - 1) / 10) + (x - 1) % 10 + 1 = 0 := by omega
    simp [e2]
    omega
def tkOf (us : Nat → Nat) : Nat → Nat := fun k => if k % 16 < 10 then us (10 * (k / 16) + k % 16) else 0
theorem tk_at (us : Nat → Nat) {d s : Nat} (hs : s < 10) : tkOf us (16 * d + s) = us (10 * d + s) := by
  have h1 : (16 * d + s) / 16 = d := by omega
  have h2 : (16 * d + s) % 16 = s := by omega
  simp [tkOf, h1, h2, hs]
theorem tk_up (us : Nat → Nat) {d s v : Nat} (hs : s < 10) : up (tkOf us) (16 * d + s) v = tkOf (up us (10 * d + s) v) := by
  funext q
  by_cases hq : q = 16 * d + s
  · subst hq
    have h1 : (16 * d + s) / 16 = d := by omega
    have h2 : (16 * d + s) % 16 = s := by omega
    simp [up, tkOf, h1, h2, hs]
  · simp only [up, if_neg hq, tkOf]
    split
    · rw [if_neg (by omega)]
    · rfl
theorem tk_lt {us : Nat → Nat} (h : ∀ i, us i < 2) (q : Nat) : tkOf us q < 2 := by
  unfold tkOf; split
  · exact h _
  · decide
def byOf (by_ : Nat → Nat) : Nat → Nat := fun i => if i / 4 % 16 < 10 then by_ (4 * (10 * (i / 64) + i / 4 % 16) + i % 4) else 0
theorem by_at (by_ : Nat → Nat) {d s t : Nat} (hs : s < 10) (ht : t < 4) : byOf by_ ((16 * d + s) * 4 + t) = by_ (4 * (10 * d + s) + t) := by
  have h1 : ((16 * d + s) * 4 + t) / 64 = d := by omega
  have h2 : ((16 * d + s) * 4 + t) / 4 % 16 = s := by omega
  have h3 : ((16 * d + s) * 4 + t) % 4 = t := by omega
  simp [byOf, h1, h2, h3, hs]
theorem by_up (by_ : Nat → Nat) {d s t v : Nat} (hs : s < 10) (ht : t < 4) : up (byOf by_) ((16 * d + s) * 4 + t) v = byOf (up by_ (4 * (10 * d + s) + t) v) := by
  funext q
  by_cases hq : q = (16 * d + s) * 4 + t
  · subst hq
    have h1 : ((16 * d + s) * 4 + t) / 64 = d := by omega
    have h2 : ((16 * d + s) * 4 + t) / 4 % 16 = s := by omega
    have h3 : ((16 * d + s) * 4 + t) % 4 = t := by omega
    simp [up, byOf, h1, h2, h3, hs]
  · simp only [up, if_neg hq, byOf]
    split
    · rw [if_neg (by omega)]
    · rfl
theorem by_lt {by_ : Nat → Nat} (h : ∀ i, by_ i < 256) (q : Nat) : byOf by_ q < 256 := by
  unfold byOf; split
  · exact h _
  · decide
/-- how many of a disk's slots are used -/
def ud (us : Nat → Nat) (d : Nat) : Nat := cs (fun s => us (10 * d + s)) 10
def frOf (us : Nat → Nat) : Nat → Nat := fun d => if d < 8 then 10 - ud us d else 0
theorem fr_at (us : Nat → Nat) {d : Nat} (hd : d < 8) : frOf us d = 10 - ud us d := by simp [frOf, hd]
theorem cs_congr {f g : Nat → Nat} : ∀ n, (∀ i, i < n → f i = g i) → cs f n = cs g n
  | 0, _ => rfl
  | n + 1, h => by
    unfold cs
    rw [cs_congr n (fun i hi => h i (by omega)), h n (by omega)]
theorem cs_up {f : Nat → Nat} {i v : Nat} : ∀ n, i < n → cs (up f i v) n + f i = cs f n + v
  | 0, h => absurd h (Nat.not_lt_zero _)
  | n + 1, h => by
    unfold cs
    rcases Nat.lt_or_ge i n with h1 | h1
    · have := cs_up (f := f) (v := v) n h1
      rw [up_ne f v (show n ≠ i by omega)]
      omega
    · have : i = n := by omega
      subst this
      rw [up_self, cs_congr (f := up f i v) (g := f) i (fun j hj => up_ne f v (by omega))]
      omega
theorem ud_up {us : Nat → Nat} {d s v : Nat} (hs : s < 10) : ud (up us (10 * d + s) v) d + us (10 * d + s) = ud us d + v := by
  have := cs_up (f := fun s => us (10 * d + s)) (v := v) 10 hs
  have e : cs (up (fun s => us (10 * d + s)) s v) 10 = ud (up us (10 * d + s) v) d := by
    unfold ud
    refine cs_congr 10 (fun i hi => ?_)
    simp only [up]
    by_cases h : i = s
    · simp [h]
    · rw [if_neg h, if_neg (by omega)]
  rw [e] at this
  exact this
theorem ud_ne {us : Nat → Nat} {d s v e : Nat} (hs : s < 10) (hne : e ≠ d) : ud (up us (10 * d + s) v) e = ud us e := by
  unfold ud
  refine cs_congr 10 (fun i hi => ?_)
  simp only [up]
  rw [if_neg (by omega)]
theorem ud_le {us : Nat → Nat} (h : ∀ i, us i < 2) (d : Nat) : ud us d ≤ 10 := by
  have := cs_le (f := fun s => us (10 * d + s)) (b := 1) (fun i => by have := h (10 * d + i); omega) 10
  simpa [ud] using this
theorem fr_take {us : Nat → Nat} {d s : Nat} (hd : d < 8) (hs : s < 10) (h0 : us (10 * d + s) = 0) (h2 : ∀ i, us i < 2) : up (frOf us) d (frOf us d - 1) = frOf (up us (10 * d + s) 1) := by
  funext e
  have h1 := ud_up (us := us) (d := d) (v := 1) hs
  by_cases he : e = d
  · subst he
    simp only [up_self, frOf, hd, if_true]
    omega
  · rw [up_ne _ _ he]
    simp only [frOf, ud_ne hs he]
theorem fr_give {us : Nat → Nat} {d s : Nat} (hd : d < 8) (hs : s < 10) (h0 : us (10 * d + s) = 1) (h2 : ∀ i, us i < 2) : up (frOf us) d (frOf us d + 1) = frOf (up us (10 * d + s) 0) := by
  funext e
  have h1 := ud_up (us := us) (d := d) (v := 0) hs
  have h3 := ud_le h2 d
  by_cases he : e = d
  · subst he
    simp only [up_self, frOf, hd, if_true]
    omega
  · rw [up_ne _ _ he]
    simp only [frOf, ud_ne hs he]
def plOf (Sh : Nat) (pl : Nat → Nat) : Nat → Nat := fun i => if i % 56 / Sh < 8 then tr (pl (56 * (i / 56) + 7 * (i % 56 / Sh) + i % 56 % Sh)) else 0
/-- a place's number, class and reference -/
theorem ix56 {Sh s h : Nat} (hS : Sh ≤ 7) (hs : s < 8) (hh : h < Sh) : s * Sh + h < 56 := by
  have h1 := mulb hs hh
  have : 8 * Sh ≤ 8 * 7 := Nat.mul_le_mul_left 8 hS
  omega
theorem pl_at {Sh : Nat} (pl : Nat → Nat) {o s h : Nat} (hS : Sh ≤ 7) (hs : s < 8) (hh : h < Sh) : plOf Sh pl (o * 56 + s * Sh + h) = tr (pl (56 * o + 7 * s + h)) := by
  have h0 := ix56 hS hs hh
  have h1 : (o * 56 + s * Sh + h) / 56 = o := by omega
  have h2 : (o * 56 + s * Sh + h) % 56 = s * Sh + h := by omega
  simp only [plOf, h1, h2, dm_div hh, dm_mod hh, hs, if_true]
theorem pl_up {Sh : Nat} (pl : Nat → Nat) {o s h v : Nat} (hS : Sh ≤ 7) (hs : s < 8) (hh : h < Sh) : up (plOf Sh pl) (o * 56 + s * Sh + h) (tr v) = plOf Sh (up pl (56 * o + 7 * s + h) v) := by
  have h0 := ix56 hS hs hh
  funext i
  by_cases hi : i = o * 56 + s * Sh + h
  · subst hi
    rw [up_self, pl_at _ hS hs hh, up_self]
  · rw [up_ne _ _ hi]
    simp only [plOf]
    split
    · rename_i h8
      have hm : i % 56 % Sh < Sh := Nat.mod_lt _ (by omega)
      have h9 : i % 56 = Sh * (i % 56 / Sh) + i % 56 % Sh := (Nat.div_add_mod _ _).symm
      rw [up_ne]
      intro e
      apply hi
      have e1 : i / 56 = o := by omega
      have e2 : i % 56 / Sh = s := by omega
      have e3 : i % 56 % Sh = h := by omega
      rw [e2, e3, Nat.mul_comm] at h9
      omega
    · rfl
theorem pl_lt {Sh : Nat} {pl : Nat → Nat} (h : ∀ i, pl i ≤ 80) (i : Nat) : plOf Sh pl i < 2 ^ 30 := by
  unfold plOf; split
  · unfold tr; split
    · decide
    · have := h (56 * (i / 56) + 7 * (i % 56 / Sh) + i % 56 % Sh); omega
  · decide
/-- the class's memory by the reference's numbers -/
abbrev CA (K Mo : Nat) (dr : Nat → Nat) (dl : Nat) (ou : Nat → Nat) (ol : Nat) (da eq al us by_ ln pl : Nat → Nat) (X : List va_E) : List va_E := CM K Mo dr dl ou ol da eq al (frOf us) (tkOf us) (byOf by_) ln (plOf (K + Mo) pl) X
/-- how many of a stripe's shards are lost -/
def nl (pl : Nat → Nat) (o s Sh : Nat) : Nat := cs (fun h => z1 (pl (56 * o + 7 * s + h))) Sh
theorem nl_cls {Sh : Nat} {pl : Nat → Nat} {o s : Nat} (hS : Sh ≤ 7) (hs : s < 8) : cs (fun h => z1 (plOf Sh pl (o * 56 + s * Sh + h))) Sh = nl pl o s Sh :=
  cs_congr Sh (fun h hh => by rw [pl_at pl hS hs hh, z1_tr])
end
section
/-! Where a shard goes: the class's side -/
section PLACE
variable {l : Launch} {K Mo dl ol : Nat} {dr ou da eq al us by_ ln pl : Nat → Nat} {X : List va_E}
theorem nI_ne_m1 {a : Nat} (ha : a < 2 ^ 30 - 1) : ¬ nI a = pI 0 := fun h => by
  rw [← pI_succ, pI_eq (by omega) (by omega)] at h; omega
theorem J.icmp_neK {I : MI} {pc : Nat} {lv : List (Nat × Value)} {M : List va_E} {k n : Nat} {out : Out} {a : Nat} {off : Int} {tgt : Nat} {r : List Value} (hd : decode I.cc pc = .ok (.if_icmp .ne off, 3)) (ht : (pc : Int) + off = (tgt : Int)) (ha : a < 2 ^ 30 - 1) (kt : J l I tgt lv r M k n out) : J l I pc lv (.int (pI 0) :: .int (nI a) :: r) M k n out :=
  J.icmp_ne hd ht (fun _ => kt) (fun h => absurd h (nI_ne_m1 ha))
theorem J.icmp_eqK {I : MI} {pc : Nat} {lv : List (Nat × Value)} {M : List va_E} {k n : Nat} {out : Out} {a : Nat} {off : Int} {tgt : Nat} {r : List Value} (hd : decode I.cc pc = .ok (.if_icmp .eq off, 3)) (ht : (pc : Int) + off = (tgt : Int)) (ha : a < 2 ^ 30 - 1) (kf : J l I (pc + 3) lv r M k n out) : J l I pc lv (.int (pI 0) :: .int (nI a) :: r) M k n out :=
  J.icmp_eq hd ht (fun h => absurd h (nI_ne_m1 ha)) (fun _ => kf)
theorem anyB_congr {p q : Nat → Bool} : ∀ n, (∀ i, i < n → p i = q i) → anyB p n = anyB q n
  | 0, _ => rfl
  | n + 1, h => by
    unfold anyB
    rw [anyB_congr n (fun i hi => h i (by omega)), h n (by omega)]
/-- a stripe has a shard on the disk -/
def onD (pl : Nat → Nat) (o s Sh d : Nat) : Bool := anyB (fun h => od10 d (pl (56 * o + 7 * s + h))) Sh
theorem onD_cls {Sh : Nat} {pl : Nat → Nat} {o s d : Nat} (hS : Sh ≤ 7) (hs : s < 8) : anyB (fun h => od d (plOf Sh pl (o * 56 + s * Sh + h))) Sh = onD pl o s Sh d :=
  anyB_congr Sh (fun h hh => by rw [pl_at pl hS hs hh, od_tr])
/-- the roomiest disk that the stripe isn't on (its number plus one, 0: none), and its room -/
def bdS (al us pl : Nat → Nat) (o s Sh : Nat) : Nat → Nat × Nat
  | 0 => (0, 0)
  | d + 1 => if al d ≠ 0 ∧ (bdS al us pl o s Sh d).2 < 10 - ud us d ∧ onD pl o s Sh d = false then (d + 1, 10 - ud us d) else bdS al us pl o s Sh d
theorem bdS_le (al us pl : Nat → Nat) (o s Sh : Nat) : ∀ d, (bdS al us pl o s Sh d).1 ≤ d ∧ (bdS al us pl o s Sh d).2 ≤ 10
  | 0 => ⟨Nat.le_refl _, Nat.zero_le _⟩
  | d + 1 => by
    have := bdS_le al us pl o s Sh d
    unfold bdS; split
    · exact ⟨Nat.le_refl _, by omega⟩
    · exact ⟨by omega, this.2⟩
theorem bdS_free (al us pl : Nat → Nat) (o s Sh : Nat) : ∀ d, (bdS al us pl o s Sh d).1 ≠ 0 → ud us ((bdS al us pl o s Sh d).1 - 1) < 10 ∧ al ((bdS al us pl o s Sh d).1 - 1) ≠ 0
  | 0, h => absurd rfl h
  | d + 1, h => by
    unfold bdS at h ⊢; split
    · rename_i hc; simp only [Nat.add_sub_cancel]; exact ⟨by omega, hc.1⟩
    · rename_i hc; rw [if_neg hc] at h; exact bdS_free al us pl o s Sh d h
theorem con_V_isGone {o s : Nat} (hS : K + Mo ≤ 7) (ho : o < 6) (hs : s < 8) (hp : ∀ i, pl i ≤ 80) : Con l i_V_isGone [.ref 0, .int (nI (o * 56 + s * (K + Mo)))] (CA K Mo dr dl ou ol da eq al us by_ ln pl X) (.inl (some (.int (nI (if Mo < nl pl o s (K + Mo) then 1 else 0))), (CA K Mo dr dl ou ol da eq al us by_ ln pl X))) := by
  have hr : o * 56 + s * (K + Mo) + (K + Mo) ≤ 336 := by
    have h1 : (s + 1) * (K + Mo) ≤ 8 * 7 := Nat.mul_le_mul (by omega) hS
    rw [Nat.succ_mul] at h1; omega
  have hc := con_G_countLost (l := l) (K := K) (Mo := Mo) (dl := dl) (ol := ol) (dr := dr) (ou := ou) (da := da) (eq := eq) (al := al) (fr := frOf us) (tk := tkOf us) (by_ := byOf by_) (ln := ln) (X := X) hS hr (pl_lt (Sh := K + Mo) hp)
  rw [nl_cls hS hs] at hc
  have hn : nl pl o s (K + Mo) ≤ (K + Mo) * 1 := cs_le (fun i => by unfold z1; split <;> omega) _
  refine Con.of ?_
  refine J.aload_n d_V_isGone_0 rfl rfl ?_
  refine J.getfield d_V_isGone_1 fl_V_32 rfl rfl ?_
  refine J.iload_n d_V_isGone_4 rfl rfl ?_
  refine J.v1i hc k_V_isGone_G_countLost d_V_isGone_5 rfl rfl rfl ?_
  refine J.aload_n d_V_isGone_8 rfl rfl ?_
  refine J.getfield d_V_isGone_9 fl_V_18 rfl rfl ?_
  refine J.getfield d_V_isGone_12 fl_V_142 rfl rfl ?_
  refine J.aload_n d_V_isGone_15 rfl rfl ?_
  refine J.getfield d_V_isGone_16 fl_V_18 rfl rfl ?_
  refine J.getfield d_V_isGone_19 fl_V_214 rfl rfl ?_
  refine J.isubN d_V_isGone_22 (by omega) ?_
  rw [show K + Mo - K = Mo by omega]
  refine J.icmp_leN d_V_isGone_23 (tgt := 30) (by decide) (by omega) (by omega) (fun h => ?_) (fun h => ?_)
  · rw [if_neg (by omega)]
    refine J.iconst d_V_isGone_30 (v := nI 0) (by decide) ?_
    first | exact J.zreturn d_V_isGone_31 rfl rfl (by decide) (by decide) | exact J.zreturnN d_V_isGone_31 rfl (by omega) (by decide) (by decide)
  · rw [if_pos (by omega)]
    refine J.iconst d_V_isGone_26 (v := nI 1) (by decide) ?_
    refine J.goto d_V_isGone_27 (tgt := 31) (by decide) ?_
    first | exact J.zreturn d_V_isGone_31 rfl rfl (by decide) (by decide) | exact J.zreturnN d_V_isGone_31 rfl (by omega) (by decide) (by decide)
theorem lp_V_room {o s : Nat} (hS : K + Mo ≤ 7) (ho : o < 6) (hs : s < 8) (hp : ∀ i, pl i ≤ 80) (h2 : ∀ i, us i < 2) (ha : ∀ i, al i < 2) : ∀ (j i : Nat), i + j = 8 →
    J l i_V_roomiestDiskFor 7 [(0, .ref 0), (1, .int (nI (o * 56 + s * (K + Mo)))), (2, .int (pI (bdS al us pl o s (K + Mo) i).1)), (3, .int (nI (bdS al us pl o s (K + Mo) i).2)), (4, .int (nI i))] [] (CA K Mo dr dl ou ol da eq al us by_ ln pl X) 0 0 (.inl (some (.int (pI (bdS al us pl o s (K + Mo) 8).1)), (CA K Mo dr dl ou ol da eq al us by_ ln pl X)))
  | 0, i, hi => by
    refine J.iload d_V_roomiestDiskFor_7 rfl ?_
    refine J.bipush d_V_roomiestDiskFor_9 (v := nI 8) (by decide) ?_
    refine J.icmp_geN d_V_roomiestDiskFor_11 (tgt := 68) (by decide) (by omega) (by omega) (fun h => ?_) (fun h => ?_)
    · rw [show i = 8 by omega]
      refine J.iload_n d_V_roomiestDiskFor_68 rfl rfl ?_
      exact J.ireturn d_V_roomiestDiskFor_69 rfl (by decide) (by decide)
    · omega
  | j + 1, i, hi => by
    have hr : o * 56 + s * (K + Mo) + (K + Mo) ≤ 336 := by
      have h1 : (s + 1) * (K + Mo) ≤ 8 * 7 := Nat.mul_le_mul (by omega) hS
      rw [Nat.succ_mul] at h1; omega
    have ih := lp_V_room hS ho hs hp h2 ha j (i + 1) (by omega)
    have hi8 : i < 8 := by omega
    have hai := ha i
    have hle := bdS_le al us pl o s (K + Mo) i
    have hc := con_G_isOnDisk (l := l) (K := K) (Mo := Mo) (dl := dl) (ol := ol) (dr := dr) (ou := ou) (da := da) (eq := eq) (al := al) (fr := frOf us) (tk := tkOf us) (by_ := byOf by_) (ln := ln) (X := X) hi8 hS hr (pl_lt (Sh := K + Mo) hp)
    rw [onD_cls hS hs] at hc
    have no : ¬ (al i ≠ 0 ∧ (bdS al us pl o s (K + Mo) i).2 < 10 - ud us i ∧ onD pl o s (K + Mo) i = false) → bdS al us pl o s (K + Mo) (i + 1) = bdS al us pl o s (K + Mo) i := fun hn => by
      show (if _ then _ else _) = _
      rw [if_neg hn]
    refine J.iload d_V_roomiestDiskFor_7 rfl ?_
    refine J.bipush d_V_roomiestDiskFor_9 (v := nI 8) (by decide) ?_
    refine J.icmp_geN d_V_roomiestDiskFor_11 (tgt := 68) (by decide) (by omega) (by omega) (fun h => ?_) (fun h => ?_)
    · omega
    refine J.aload_n d_V_roomiestDiskFor_14 rfl rfl ?_
    refine J.getfield d_V_roomiestDiskFor_15 fl_V_25 rfl rfl ?_
    refine J.iload d_V_roomiestDiskFor_18 rfl ?_
    refine J.v1i (con_D_freeSlotsOf hi8) k_V_roomiestDiskFor_D_freeSlotsOf d_V_roomiestDiskFor_20 rfl rfl rfl ?_
    rw [fr_at us hi8]
    refine J.istore d_V_roomiestDiskFor_23 (by decide) rfl ?_
    refine J.aload_n d_V_roomiestDiskFor_25 rfl rfl ?_
    refine J.getfield d_V_roomiestDiskFor_26 fl_V_25 rfl rfl ?_
    refine J.iload d_V_roomiestDiskFor_29 rfl ?_
    refine J.v1i (con_D_isAlive hi8 hai) k_V_roomiestDiskFor_D_isAlive d_V_roomiestDiskFor_31 rfl rfl rfl ?_
    refine J.if_eqN d_V_roomiestDiskFor_34 (tgt := 62) (by decide) (by omega) (fun h3 => ?_) (fun h3 => ?_)
    · rw [no (fun z => z.1 h3)] at ih
      refine J.iincN d_V_roomiestDiskFor_62 rfl rfl (by decide) rfl ?_
      refine J.goto d_V_roomiestDiskFor_65 (tgt := 7) (by decide) ?_
      exact J.sub [0, 1, 2, 3, 4] ih
    refine J.iload d_V_roomiestDiskFor_37 rfl ?_
    refine J.iload_n d_V_roomiestDiskFor_39 rfl rfl ?_
    refine J.icmp_leN d_V_roomiestDiskFor_40 (tgt := 62) (by decide) (by omega) (by omega) (fun h4 => ?_) (fun h4 => ?_)
    · rw [no (fun z => by omega)] at ih
      refine J.iincN d_V_roomiestDiskFor_62 rfl rfl (by decide) rfl ?_
      refine J.goto d_V_roomiestDiskFor_65 (tgt := 7) (by decide) ?_
      exact J.sub [0, 1, 2, 3, 4] ih
    refine J.aload_n d_V_roomiestDiskFor_43 rfl rfl ?_
    refine J.getfield d_V_roomiestDiskFor_44 fl_V_32 rfl rfl ?_
    refine J.iload_n d_V_roomiestDiskFor_47 rfl rfl ?_
    refine J.iload d_V_roomiestDiskFor_48 rfl ?_
    refine J.v2i hc k_V_roomiestDiskFor_G_isOnDisk d_V_roomiestDiskFor_50 rfl rfl rfl ?_
    have hb := b2n_lt (onD pl o s (K + Mo) i)
    refine J.if_neN d_V_roomiestDiskFor_53 (tgt := 62) (by decide) (by omega) (fun h5 => ?_) (fun h5 => ?_)
    · rw [no (fun z => by rw [z.2.2] at h5; exact h5 rfl)] at ih
      refine J.iincN d_V_roomiestDiskFor_62 rfl rfl (by decide) rfl ?_
      refine J.goto d_V_roomiestDiskFor_65 (tgt := 7) (by decide) ?_
      exact J.sub [0, 1, 2, 3, 4] ih
    · have hf : onD pl o s (K + Mo) i = false := by cases hz : onD pl o s (K + Mo) i <;> simp_all [b2n]
      have e : bdS al us pl o s (K + Mo) (i + 1) = (i + 1, 10 - ud us i) := by
        show (if _ then _ else _) = _
        rw [if_pos ⟨h3, h4, hf⟩]
      rw [e] at ih
      dsimp only at ih
      rw [pI_succ] at ih
      refine J.iload d_V_roomiestDiskFor_56 rfl ?_
      refine J.istore_n d_V_roomiestDiskFor_58 rfl (by decide) rfl ?_
      refine J.iload d_V_roomiestDiskFor_59 rfl ?_
      refine J.istore_n d_V_roomiestDiskFor_61 rfl (by decide) rfl ?_
      refine J.iincN d_V_roomiestDiskFor_62 rfl rfl (by decide) rfl ?_
      refine J.goto d_V_roomiestDiskFor_65 (tgt := 7) (by decide) ?_
      exact J.sub [0, 1, 2, 3, 4] ih
theorem con_V_room4 {o s : Nat} (hS : K + Mo ≤ 7) (ho : o < 6) (hs : s < 8) (hp : ∀ i, pl i ≤ 80) (h2 : ∀ i, us i < 2) (ha : ∀ i, al i < 2) : Con l i_V_roomiestDiskFor [.ref 0, .int (nI (o * 56 + s * (K + Mo)))] (CA K Mo dr dl ou ol da eq al us by_ ln pl X) (.inl (some (.int (pI (bdS al us pl o s (K + Mo) 8).1)), (CA K Mo dr dl ou ol da eq al us by_ ln pl X))) := by
  refine Con.of ?_
  refine J.iconst d_V_roomiestDiskFor_0 (v := pI 0) (by decide) ?_
  refine J.istore_n d_V_roomiestDiskFor_1 rfl (by decide) rfl ?_
  refine J.iconst d_V_roomiestDiskFor_2 (v := nI 0) (by decide) ?_
  refine J.istore_n d_V_roomiestDiskFor_3 rfl (by decide) rfl ?_
  refine J.iconst d_V_roomiestDiskFor_4 (v := nI 0) (by decide) ?_
  refine J.istore d_V_roomiestDiskFor_5 (by decide) rfl ?_
  exact lp_V_room hS ho hs hp h2 ha 8 0 (by omega)
/-- a disk's first free slot -/
def fs0 (us : Nat → Nat) (d : Nat) : Nat → Nat → Nat
  | 0, i => i
  | n + 1, i => if us (10 * d + i) = 0 then i else fs0 us d n (i + 1)
def ff (us : Nat → Nat) (d : Nat) : Nat := fs0 us d 10 0
theorem fs0_spec {us : Nat → Nat} {d : Nat} (h2 : ∀ i, us i < 2) : ∀ (n i : Nat), (∀ x, x < i → us (10 * d + x) = 1) → i ≤ fs0 us d n i ∧ fs0 us d n i ≤ i + n ∧ (∀ x, x < fs0 us d n i → us (10 * d + x) = 1) ∧ (fs0 us d n i < i + n → us (10 * d + fs0 us d n i) = 0)
  | 0, i, h => ⟨Nat.le_refl _, Nat.le_refl _, h, fun z => absurd z (by unfold fs0; omega)⟩
  | n + 1, i, h => by
    unfold fs0; split
    · rename_i h0; exact ⟨Nat.le_refl _, by omega, h, fun _ => h0⟩
    · rename_i h0
      have h9 := h2 (10 * d + i)
      have := fs0_spec (d := d) h2 n (i + 1) (fun x hx => by
        rcases Nat.lt_or_ge x i with z | z
        · exact h x z
        · have : x = i := by omega
          subst this; omega)
      exact ⟨by omega, by omega, this.2.2.1, fun z => this.2.2.2 (by omega)⟩
theorem cs_all1 {f : Nat → Nat} : ∀ n, (∀ i, i < n → f i = 1) → cs f n = n
  | 0, _ => rfl
  | n + 1, h => by unfold cs; rw [cs_all1 n (fun i hi => h i (by omega)), h n (by omega)]
theorem ff_spec {us : Nat → Nat} {d : Nat} (h2 : ∀ i, us i < 2) (hu : ud us d < 10) : ff us d < 10 ∧ us (10 * d + ff us d) = 0 ∧ ∀ x, x < ff us d → us (10 * d + x) = 1 := by
  have h := fs0_spec (d := d) h2 10 0 (fun x hx => absurd hx (Nat.not_lt_zero _))
  have hlt : ff us d < 10 := by
    rcases Nat.lt_or_ge (ff us d) 10 with z | z
    · exact z
    · have := cs_all1 (f := fun s => us (10 * d + s)) 10 (fun i hi => h.2.2.1 i (Nat.lt_of_lt_of_le hi z))
      unfold ud at hu; omega
  exact ⟨hlt, h.2.2.2 (by unfold ff at hlt; omega), h.2.2.1⟩
/-- four bytes laid at a place -/
def b4 (by_ : Nat → Nat) (p : Nat) (f : Nat → Nat) : Nat → Nat → Nat
  | 0 => by_
  | n + 1 => up (b4 by_ p f n) (4 * p + n) (f n)
/-- the place that a shard gets (plus one, 0: none) -/
def gp (al us pl : Nat → Nat) (o s Sh : Nat) : Nat := if (bdS al us pl o s Sh 8).1 = 0 then 0 else 10 * ((bdS al us pl o s Sh 8).1 - 1) + ff us ((bdS al us pl o s Sh 8).1 - 1) + 1
theorem lp_V_lay {d z o s h : Nat} (hK : 0 < K) (hK4 : K ≤ 4) (hM : Mo ≤ 3) (hh : h < K + Mo) (hda : ∀ i, da i < 256) (hd : d < 8) (hz : z < 10) {lv3 : Value} {out : Out}
    (kk : J l i_V_placeShard 69 [(0, .ref 0), (1, .int (nI (o * 56 + s * (K + Mo)))), (2, .int (nI h)), (3, lv3), (4, .int (nI (16 * d + z)))] [] (CA K Mo dr dl ou ol da eq al us (b4 by_ (10 * d + z) (sb K da h) 4) ln pl X) 0 0 out) : ∀ (j i : Nat), i + j = 4 →
    J l i_V_placeShard 36 [(0, .ref 0), (1, .int (nI (o * 56 + s * (K + Mo)))), (2, .int (nI h)), (3, lv3), (4, .int (nI (16 * d + z))), (5, .int (nI i))] [] (CA K Mo dr dl ou ol da eq al us (b4 by_ (10 * d + z) (sb K da h) i) ln pl X) 0 0 out
  | 0, i, hi => by
    have hi' : i = 4 := by omega
    subst hi'
    refine J.iload d_V_placeShard_36 rfl ?_
    refine J.iconst d_V_placeShard_38 (v := nI 4) (by decide) ?_
    refine J.icmp_geN d_V_placeShard_39 (tgt := 69) (by decide) (by omega) (by omega) (fun h => ?_) (fun h => ?_)
    · exact J.sub [0, 1, 2, 3, 4] kk
    · omega
  | j + 1, i, hi => by
    have hi4 : i < 4 := by omega
    have ih := lp_V_lay hK hK4 hM hh hda hd hz kk j (i + 1) (by omega)
    refine J.iload d_V_placeShard_36 rfl ?_
    refine J.iconst d_V_placeShard_38 (v := nI 4) (by decide) ?_
    refine J.icmp_geN d_V_placeShard_39 (tgt := 69) (by decide) (by omega) (by omega) (fun h => ?_) (fun h => ?_)
    · omega
    refine J.aload_n d_V_placeShard_42 rfl rfl ?_
    refine J.getfield d_V_placeShard_43 fl_V_25 rfl rfl ?_
    refine J.iload d_V_placeShard_46 rfl ?_
    refine J.iload d_V_placeShard_48 rfl ?_
    refine J.aload_n d_V_placeShard_50 rfl rfl ?_
    refine J.getfield d_V_placeShard_51 fl_V_18 rfl rfl ?_
    refine J.iload_n d_V_placeShard_54 rfl rfl ?_
    refine J.iload d_V_placeShard_55 rfl ?_
    refine J.v2i (con_C_shardByte hK hK4 hM hh hi4 hda) k_V_placeShard_C_shardByte d_V_placeShard_57 rfl rfl rfl ?_
    refine J.v3v (con_D_setByte (by omega) hi4) k_V_placeShard_D_setByte d_V_placeShard_60 rfl rfl rfl ?_
    rw [by_up _ hz hi4]
    refine J.iincN d_V_placeShard_63 rfl rfl (by decide) rfl ?_
    refine J.goto d_V_placeShard_66 (tgt := 36) (by decide) ?_
    exact ih
theorem con_V_placeShard {o s h : Nat} (hK : 0 < K) (hK4 : K ≤ 4) (hM : Mo ≤ 3) (ho : o < 6) (hs : s < 8) (hh : h < K + Mo) (hda : ∀ i, da i < 256) (hp : ∀ i, pl i ≤ 80) (h2 : ∀ i, us i < 2) (ha : ∀ i, al i < 2) (hg : gp al us pl o s (K + Mo) ≠ 0) :
    Con l i_V_placeShard [.ref 0, .int (nI (o * 56 + s * (K + Mo))), .int (nI h)] (CA K Mo dr dl ou ol da eq al us by_ ln pl X) (.inl (some (.int (nI 1)), (CA K Mo dr dl ou ol da eq al (up us (gp al us pl o s (K + Mo) - 1) 1) (b4 by_ (gp al us pl o s (K + Mo) - 1) (sb K da h) 4) ln (up pl (56 * o + 7 * s + h) (gp al us pl o s (K + Mo))) X))) := by
  have hS : K + Mo ≤ 7 := by omega
  have hr : o * 56 + s * (K + Mo) + (K + Mo) ≤ 336 := by
    have h1 : (s + 1) * (K + Mo) ≤ 8 * 7 := Nat.mul_le_mul (by omega) hS
    rw [Nat.succ_mul] at h1; omega
  have hle := bdS_le al us pl o s (K + Mo) 8
  obtain ⟨b, eb⟩ : ∃ b, (bdS al us pl o s (K + Mo) 8).1 = b + 1 := ⟨(bdS al us pl o s (K + Mo) 8).1 - 1, by
    have : (bdS al us pl o s (K + Mo) 8).1 ≠ 0 := fun z => hg (by unfold gp; rw [if_pos z])
    omega⟩
  have hf := bdS_free al us pl o s (K + Mo) 8 (by omega)
  rw [eb, Nat.add_sub_cancel] at hf
  have hb8 : b < 8 := by omega
  obtain ⟨f1, f2, f3⟩ := ff_spec h2 hf.1
  have eg : gp al us pl o s (K + Mo) = 10 * b + ff us b + 1 := by unfold gp; rw [if_neg (by omega), eb, Nat.add_sub_cancel]
  rw [eg, Nat.add_sub_cancel]
  generalize ff us b = z at f1 f2 f3
  have hc := con_V_room4 (l := l) (dl := dl) (ol := ol) (dr := dr) (ou := ou) (da := da) (eq := eq) (by_ := by_) (ln := ln) (X := X) hS ho hs hp h2 ha
  rw [eb, pI_succ] at hc
  have ht := con_D_takeSlot (l := l) (K := K) (Mo := Mo) (dl := dl) (ol := ol) (dr := dr) (ou := ou) (da := da) (eq := eq) (al := al) (fr := frOf us) (tk := tkOf us) (by_ := byOf by_) (ln := ln) (pl := plOf (K + Mo) pl) (X := X) hb8 f1 (by rw [tk_at us f1]; exact f2) (fun i hi => by rw [tk_at us (by omega)]; exact f3 i hi) (by rw [fr_at us hb8]; omega)
  rw [tk_up us f1, fr_take hb8 f1 f2 h2] at ht
  have hsp := fun (us' by' : Nat → Nat) => con_G_setPlace (l := l) (K := K) (Mo := Mo) (dl := dl) (ol := ol) (dr := dr) (ou := ou) (da := da) (eq := eq) (al := al) (fr := frOf us') (tk := tkOf us') (by_ := byOf by') (ln := ln) (pl := plOf (K + Mo) pl) (X := X) (r := o * 56 + s * (K + Mo)) (h := h) (v := tr (10 * b + z + 1)) (by omega)
  have e16 : tr (10 * b + z + 1) = 16 * b + z + 1 := by rw [tr_s]; omega
  rw [pl_up pl hS hs hh] at hsp
  rw [e16, pI_succ] at hsp
  refine Con.of ?_
  refine J.aload_n d_V_placeShard_0 rfl rfl ?_
  refine J.iload_n d_V_placeShard_1 rfl rfl ?_
  refine J.v1i hc k_V_placeShard_V_roomiestDiskFor d_V_placeShard_2 rfl rfl rfl ?_
  refine J.istore_n d_V_placeShard_5 rfl (by decide) rfl ?_
  refine J.iload_n d_V_placeShard_6 rfl rfl ?_
  refine J.iconst d_V_placeShard_7 (v := pI 0) (by decide) ?_
  refine J.icmp_neK d_V_placeShard_8 (tgt := 15) (by decide) (by omega) ?_
  refine J.aload_n d_V_placeShard_15 rfl rfl ?_
  refine J.getfield d_V_placeShard_16 fl_V_25 rfl rfl ?_
  refine J.iload_n d_V_placeShard_19 rfl rfl ?_
  refine J.v1i ht k_V_placeShard_D_takeSlot d_V_placeShard_20 rfl rfl rfl ?_
  refine J.istore d_V_placeShard_23 (by decide) rfl ?_
  refine J.iload d_V_placeShard_25 rfl ?_
  refine J.iconst d_V_placeShard_27 (v := pI 0) (by decide) ?_
  refine J.icmp_neK d_V_placeShard_28 (tgt := 33) (by decide) (by omega) ?_
  refine J.iconst d_V_placeShard_33 (v := nI 0) (by decide) ?_
  refine J.istore d_V_placeShard_34 (by decide) rfl ?_
  refine lp_V_lay (o := o) (s := s) hK hK4 hM hh hda hb8 f1 ?_ 4 0 (by omega)
  refine J.aload_n d_V_placeShard_69 rfl rfl ?_
  refine J.getfield d_V_placeShard_70 fl_V_32 rfl rfl ?_
  refine J.iload_n d_V_placeShard_73 rfl rfl ?_
  refine J.iload_n d_V_placeShard_74 rfl rfl ?_
  refine J.iload d_V_placeShard_75 rfl ?_
  refine J.v3v (hsp _ _) k_V_placeShard_G_setPlace d_V_placeShard_77 rfl rfl rfl ?_
  refine J.iconst d_V_placeShard_80 (v := nI 1) (by decide) ?_
  first | exact J.zreturn d_V_placeShard_81 rfl rfl (by decide) (by decide) | exact J.zreturnN d_V_placeShard_81 rfl (by omega) (by decide) (by decide)
theorem con_V_placeShard0 {o s h : Nat} (hS : K + Mo ≤ 7) (ho : o < 6) (hs : s < 8) (hp : ∀ i, pl i ≤ 80) (h2 : ∀ i, us i < 2) (ha : ∀ i, al i < 2) (hg : gp al us pl o s (K + Mo) = 0) :
    Con l i_V_placeShard [.ref 0, .int (nI (o * 56 + s * (K + Mo))), .int (nI h)] (CA K Mo dr dl ou ol da eq al us by_ ln pl X) (.inl (some (.int (nI 0)), (CA K Mo dr dl ou ol da eq al us by_ ln pl X))) := by
  have eb : (bdS al us pl o s (K + Mo) 8).1 = 0 := by
    rcases Nat.eq_zero_or_pos (bdS al us pl o s (K + Mo) 8).1 with z | z
    · exact z
    · unfold gp at hg; rw [if_neg (by omega)] at hg; omega
  have hc := con_V_room4 (l := l) (dl := dl) (ol := ol) (dr := dr) (ou := ou) (da := da) (eq := eq) (by_ := by_) (ln := ln) (X := X) hS ho hs hp h2 ha
  rw [eb] at hc
  refine Con.of ?_
  refine J.aload_n d_V_placeShard_0 rfl rfl ?_
  refine J.iload_n d_V_placeShard_1 rfl rfl ?_
  refine J.v1i hc k_V_placeShard_V_roomiestDiskFor d_V_placeShard_2 rfl rfl rfl ?_
  refine J.istore_n d_V_placeShard_5 rfl (by decide) rfl ?_
  refine J.iload_n d_V_placeShard_6 rfl rfl ?_
  refine J.iconst d_V_placeShard_7 (v := pI 0) (by decide) ?_
  refine J.icmp_neP d_V_placeShard_8 (tgt := 15) (by decide) (by omega) (by omega) (fun q => absurd rfl q) (fun _ => ?_)
  refine J.iconst d_V_placeShard_11 (v := pI 0) (by decide) ?_
  refine J.goto d_V_placeShard_12 (tgt := 23) (by decide) ?_
  refine J.istore d_V_placeShard_23 (by decide) rfl ?_
  refine J.iload d_V_placeShard_25 rfl ?_
  refine J.iconst d_V_placeShard_27 (v := pI 0) (by decide) ?_
  refine J.icmp_neP d_V_placeShard_28 (tgt := 33) (by decide) (by omega) (by omega) (fun q => absurd rfl q) (fun _ => ?_)
  refine J.iconst d_V_placeShard_31 (v := nI 0) (by decide) ?_
  first | exact J.zreturn d_V_placeShard_32 rfl rfl (by decide) (by decide) | exact J.zreturnN d_V_placeShard_32 rfl (by omega) (by decide) (by decide)
end PLACE
end
section
/-! Reading a stripe: the class's side -/
section READ
variable {l : Launch} {K Mo dl ol : Nat} {dr ou da eq al us by_ ln pl : Nat → Nat} {X : List va_E}
/-- the draft's stripe s as data, its first n -/
def td (K : Nat) (dr : Nat → Nat) (dl s : Nat) (da : Nat → Nat) (n : Nat) : Nat → Nat := fun i => if i < n then (if s * (4 * K) + i < dl then dr (s * (4 * K) + i) else 0) else da i
theorem td_0 (K : Nat) (dr : Nat → Nat) (dl s : Nat) (da : Nat → Nat) : td K dr dl s da 0 = da := by funext i; simp [td]
theorem td_up {K : Nat} {dr : Nat → Nat} {dl s : Nat} {da : Nat → Nat} {n : Nat} : up (td K dr dl s da n) n (if s * (4 * K) + n < dl then dr (s * (4 * K) + n) else 0) = td K dr dl s da (n + 1) := by
  funext i
  by_cases hi : i = n
  · subst hi; simp [up, td]
  · simp only [up, if_neg hi, td]
    have : (i < n + 1) ↔ i < n := by omega
    simp only [this]
theorem lp_V_take {s : Nat} (hK4 : K ≤ 4) (hdl : dl ≤ 32) (hs : s < 8) : ∀ (j i : Nat), i + j = 4 * K →
    J l i_V_takeDataFromDraft 12 [(0, .ref 0), (1, .int (nI s)), (2, .int (nI (s * (4 * K)))), (3, .int (nI i))] [] (CA K Mo dr dl ou ol (td K dr dl s da i) eq al us by_ ln pl X) 0 0 (.inl (none, (CA K Mo dr dl ou ol (td K dr dl s da (4 * K)) eq al us by_ ln pl X)))
  | 0, i, hi => by
    have h1 : s * (4 * K) ≤ 8 * (4 * 4) := Nat.mul_le_mul (by omega) (by omega)
    refine J.iload_n d_V_takeDataFromDraft_12 rfl rfl ?_
    refine J.aload_n d_V_takeDataFromDraft_13 rfl rfl ?_
    refine J.getfield d_V_takeDataFromDraft_14 fl_V_18 rfl rfl ?_
    refine J.getfield d_V_takeDataFromDraft_17 fl_V_184 rfl rfl ?_
    refine J.icmp_geN d_V_takeDataFromDraft_20 (tgt := 60) (by decide) (by omega) (by omega) (fun h => ?_) (fun h => ?_)
    · rw [show i = 4 * K by omega]
      exact J.vreturn d_V_takeDataFromDraft_60 rfl (by decide) (by decide)
    · omega
  | j + 1, i, hi => by
    have h1 : s * (4 * K) ≤ 8 * (4 * 4) := Nat.mul_le_mul (by omega) (by omega)
    have ih := lp_V_take hK4 hdl hs j (i + 1) (by omega)
    rw [← td_up] at ih
    refine J.iload_n d_V_takeDataFromDraft_12 rfl rfl ?_
    refine J.aload_n d_V_takeDataFromDraft_13 rfl rfl ?_
    refine J.getfield d_V_takeDataFromDraft_14 fl_V_18 rfl rfl ?_
    refine J.getfield d_V_takeDataFromDraft_17 fl_V_184 rfl rfl ?_
    refine J.icmp_geN d_V_takeDataFromDraft_20 (tgt := 60) (by decide) (by omega) (by omega) (fun h => ?_) (fun h => ?_)
    · omega
    refine J.aload_n d_V_takeDataFromDraft_23 rfl rfl ?_
    refine J.getfield d_V_takeDataFromDraft_24 fl_V_18 rfl rfl ?_
    refine J.getfield d_V_takeDataFromDraft_27 fl_V_187 rfl rfl ?_
    refine J.iload_n d_V_takeDataFromDraft_30 rfl rfl ?_
    refine J.iload_n d_V_takeDataFromDraft_31 rfl rfl ?_
    refine J.iload_n d_V_takeDataFromDraft_32 rfl rfl ?_
    refine J.iaddN d_V_takeDataFromDraft_33 ?_
    refine J.aload_n d_V_takeDataFromDraft_34 rfl rfl ?_
    refine J.getfield d_V_takeDataFromDraft_35 fl_V_40 rfl rfl ?_
    refine J.icmp_geN d_V_takeDataFromDraft_38 (tgt := 52) (by decide) (by omega) (by omega) (fun h2 => ?_) (fun h2 => ?_)
    · rw [if_neg (by omega)] at ih
      refine J.iconst d_V_takeDataFromDraft_52 (v := nI 0) (by decide) ?_
      refine J.iastoreN d_V_takeDataFromDraft_53 rfl (by omega) (by omega) ?_
      refine J.iincN d_V_takeDataFromDraft_54 rfl rfl (by decide) rfl ?_
      refine J.goto d_V_takeDataFromDraft_57 (tgt := 12) (by decide) ?_
      exact ih
    · rw [if_pos (by omega)] at ih
      refine J.aload_n d_V_takeDataFromDraft_41 rfl rfl ?_
      refine J.getfield d_V_takeDataFromDraft_42 fl_V_36 rfl rfl ?_
      refine J.iload_n d_V_takeDataFromDraft_45 rfl rfl ?_
      refine J.iload_n d_V_takeDataFromDraft_46 rfl rfl ?_
      refine J.iaddN d_V_takeDataFromDraft_47 ?_
      refine J.ialoadN d_V_takeDataFromDraft_48 rfl (by omega) (by omega) ?_
      refine J.goto d_V_takeDataFromDraft_49 (tgt := 53) (by decide) ?_
      refine J.iastoreN d_V_takeDataFromDraft_53 rfl (by omega) (by omega) ?_
      refine J.iincN d_V_takeDataFromDraft_54 rfl rfl (by decide) rfl ?_
      refine J.goto d_V_takeDataFromDraft_57 (tgt := 12) (by decide) ?_
      exact ih
theorem con_V_takeDataFromDraft {s : Nat} (hK4 : K ≤ 4) (hdl : dl ≤ 32) (hs : s < 8) : Con l i_V_takeDataFromDraft [.ref 0, .int (nI s)] (CA K Mo dr dl ou ol da eq al us by_ ln pl X) (.inl (none, (CA K Mo dr dl ou ol (td K dr dl s da (4 * K)) eq al us by_ ln pl X))) := by
  refine Con.of ?_
  refine J.iload_n d_V_takeDataFromDraft_0 rfl rfl ?_
  refine J.aload_n d_V_takeDataFromDraft_1 rfl rfl ?_
  refine J.getfield d_V_takeDataFromDraft_2 fl_V_18 rfl rfl ?_
  refine J.getfield d_V_takeDataFromDraft_5 fl_V_184 rfl rfl ?_
  refine J.imulN d_V_takeDataFromDraft_8 ?_
  refine J.istore_n d_V_takeDataFromDraft_9 rfl (by decide) rfl ?_
  refine J.iconst d_V_takeDataFromDraft_10 (v := nI 0) (by decide) ?_
  refine J.istore_n d_V_takeDataFromDraft_11 rfl (by decide) rfl ?_
  have := lp_V_take (l := l) (Mo := Mo) (ol := ol) (dr := dr) (ou := ou) (da := da) (eq := eq) (al := al) (us := us) (by_ := by_) (ln := ln) (pl := pl) (X := X) hK4 hdl hs (4 * K) 0 (by omega)
  rw [td_0] at this
  exact this
/-- the output with the stripe's first n data -/
def co (K : Nat) (da ou : Nat → Nat) (s n : Nat) : Nat → Nat := fun q => if s * (4 * K) ≤ q ∧ q < s * (4 * K) + n ∧ q < 32 then da (q - s * (4 * K)) else ou q
theorem co_0 (K : Nat) (da ou : Nat → Nat) (s : Nat) : co K da ou s 0 = ou := by
  funext q; unfold co; rw [if_neg (by omega)]
theorem co_up {K : Nat} {da ou : Nat → Nat} {s n : Nat} (h : s * (4 * K) + n < 32) : up (co K da ou s n) (s * (4 * K) + n) (da n) = co K da ou s (n + 1) := by
  funext q
  by_cases hq : q = s * (4 * K) + n
  · subst hq
    rw [up_self]; unfold co
    rw [if_pos (by omega), Nat.add_sub_cancel_left]
  · rw [up_ne _ _ hq]; unfold co
    have : (s * (4 * K) ≤ q ∧ q < s * (4 * K) + (n + 1) ∧ q < 32) ↔ (s * (4 * K) ≤ q ∧ q < s * (4 * K) + n ∧ q < 32) := by omega
    simp only [this]
theorem co_end {K : Nat} {da ou : Nat → Nat} {s n m : Nat} (h : 32 ≤ s * (4 * K) + n) (hm : n ≤ m) : co K da ou s n = co K da ou s m := by
  funext q; unfold co
  have : (s * (4 * K) ≤ q ∧ q < s * (4 * K) + n ∧ q < 32) ↔ (s * (4 * K) ≤ q ∧ q < s * (4 * K) + m ∧ q < 32) := by omega
  simp only [this]
theorem lp_V_copy {s : Nat} (hK4 : K ≤ 4) (hs : s < 8) : ∀ (j i : Nat), i + j = 4 * K →
    J l i_V_copyDataToOutput 12 [(0, .ref 0), (1, .int (nI s)), (2, .int (nI (s * (4 * K)))), (3, .int (nI i))] [] (CA K Mo dr dl (co K da ou s i) ol da eq al us by_ ln pl X) 0 0 (.inl (none, (CA K Mo dr dl (co K da ou s (4 * K)) ol da eq al us by_ ln pl X)))
  | 0, i, hi => by
    have h1 : s * (4 * K) ≤ 8 * (4 * 4) := Nat.mul_le_mul (by omega) (by omega)
    refine J.iload_n d_V_copyDataToOutput_12 rfl rfl ?_
    refine J.aload_n d_V_copyDataToOutput_13 rfl rfl ?_
    refine J.getfield d_V_copyDataToOutput_14 fl_V_18 rfl rfl ?_
    refine J.getfield d_V_copyDataToOutput_17 fl_V_184 rfl rfl ?_
    refine J.icmp_geN d_V_copyDataToOutput_20 (tgt := 54) (by decide) (by omega) (by omega) (fun h => ?_) (fun h => ?_)
    · rw [show i = 4 * K by omega]
      exact J.vreturn d_V_copyDataToOutput_54 rfl (by decide) (by decide)
    · omega
  | j + 1, i, hi => by
    have h1 : s * (4 * K) ≤ 8 * (4 * 4) := Nat.mul_le_mul (by omega) (by omega)
    have ih := lp_V_copy hK4 hs j (i + 1) (by omega)
    refine J.iload_n d_V_copyDataToOutput_12 rfl rfl ?_
    refine J.aload_n d_V_copyDataToOutput_13 rfl rfl ?_
    refine J.getfield d_V_copyDataToOutput_14 fl_V_18 rfl rfl ?_
    refine J.getfield d_V_copyDataToOutput_17 fl_V_184 rfl rfl ?_
    refine J.icmp_geN d_V_copyDataToOutput_20 (tgt := 54) (by decide) (by omega) (by omega) (fun h => ?_) (fun h => ?_)
    · omega
    refine J.iload_n d_V_copyDataToOutput_23 rfl rfl ?_
    refine J.iload_n d_V_copyDataToOutput_24 rfl rfl ?_
    refine J.iaddN d_V_copyDataToOutput_25 ?_
    refine J.bipush d_V_copyDataToOutput_26 (v := nI 32) (by decide) ?_
    refine J.icmp_geN d_V_copyDataToOutput_28 (tgt := 54) (by decide) (by omega) (by omega) (fun h2 => ?_) (fun h2 => ?_)
    · rw [co_end (m := 4 * K) h2 (by omega)]
      exact J.vreturn d_V_copyDataToOutput_54 rfl (by decide) (by decide)
    · rw [← co_up h2] at ih
      refine J.aload_n d_V_copyDataToOutput_31 rfl rfl ?_
      refine J.getfield d_V_copyDataToOutput_32 fl_V_44 rfl rfl ?_
      refine J.iload_n d_V_copyDataToOutput_35 rfl rfl ?_
      refine J.iload_n d_V_copyDataToOutput_36 rfl rfl ?_
      refine J.iaddN d_V_copyDataToOutput_37 ?_
      refine J.aload_n d_V_copyDataToOutput_38 rfl rfl ?_
      refine J.getfield d_V_copyDataToOutput_39 fl_V_18 rfl rfl ?_
      refine J.getfield d_V_copyDataToOutput_42 fl_V_187 rfl rfl ?_
      refine J.iload_n d_V_copyDataToOutput_45 rfl rfl ?_
      refine J.ialoadN d_V_copyDataToOutput_46 rfl (by omega) (by omega) ?_
      refine J.iastoreN d_V_copyDataToOutput_47 rfl (by omega) (by omega) ?_
      refine J.iincN d_V_copyDataToOutput_48 rfl rfl (by decide) rfl ?_
      refine J.goto d_V_copyDataToOutput_51 (tgt := 12) (by decide) ?_
      exact ih
theorem con_V_copyDataToOutput {s : Nat} (hK4 : K ≤ 4) (hs : s < 8) : Con l i_V_copyDataToOutput [.ref 0, .int (nI s)] (CA K Mo dr dl ou ol da eq al us by_ ln pl X) (.inl (none, (CA K Mo dr dl (co K da ou s (4 * K)) ol da eq al us by_ ln pl X))) := by
  refine Con.of ?_
  refine J.iload_n d_V_copyDataToOutput_0 rfl rfl ?_
  refine J.aload_n d_V_copyDataToOutput_1 rfl rfl ?_
  refine J.getfield d_V_copyDataToOutput_2 fl_V_18 rfl rfl ?_
  refine J.getfield d_V_copyDataToOutput_5 fl_V_184 rfl rfl ?_
  refine J.imulN d_V_copyDataToOutput_8 ?_
  refine J.istore_n d_V_copyDataToOutput_9 rfl (by decide) rfl ?_
  refine J.iconst d_V_copyDataToOutput_10 (v := nI 0) (by decide) ?_
  refine J.istore_n d_V_copyDataToOutput_11 rfl (by decide) rfl ?_
  have := lp_V_copy (l := l) (Mo := Mo) (dl := dl) (ol := ol) (dr := dr) (ou := ou) (da := da) (eq := eq) (al := al) (us := us) (by_ := by_) (ln := ln) (pl := pl) (X := X) hK4 hs (4 * K) 0 (by omega)
  rw [co_0] at this
  exact this
/-- which of a stripe's shards are lost -/
def lsB (pl : Nat → Nat) (o s : Nat) : Nat → Bool := fun h => decide (pl (56 * o + 7 * s + h) = 0)
/-- the next shard that is kept -/
def nkB (ls : Nat → Bool) (Sh : Nat) : Nat → Nat → Nat
  | 0, i => i
  | n + 1, i => if i < Sh ∧ ls i = true then nkB ls Sh n (i + 1) else i
theorem lp_V_next {o s a : Nat} (hS : K + Mo ≤ 7) (ho : o < 6) (hs : s < 8) (hp : ∀ i, pl i ≤ 80) : ∀ (j i : Nat), K + Mo ≤ i + j → i ≤ K + Mo + 1 →
    J l i_V_nextKept 2 [(0, .ref 0), (1, .int (nI (o * 56 + s * (K + Mo)))), (2, .int (nI a)), (3, .int (nI i))] [] (CA K Mo dr dl ou ol da eq al us by_ ln pl X) 0 0 (.inl (some (.int (nI (nkB (lsB pl o s) (K + Mo) j i))), (CA K Mo dr dl ou ol da eq al us by_ ln pl X)))
  | 0, i, hi, h1 => by
    refine J.iload_n d_V_nextKept_2 rfl rfl ?_
    refine J.aload_n d_V_nextKept_3 rfl rfl ?_
    refine J.getfield d_V_nextKept_4 fl_V_18 rfl rfl ?_
    refine J.getfield d_V_nextKept_7 fl_V_142 rfl rfl ?_
    refine J.icmp_geN d_V_nextKept_10 (tgt := 32) (by decide) (by omega) (by omega) (fun h => ?_) (fun h => ?_)
    · refine J.iload_n d_V_nextKept_32 rfl rfl ?_
      exact J.ireturn d_V_nextKept_33 rfl (by decide) (by decide)
    · omega
  | j + 1, i, hi, h1 => by
    refine J.iload_n d_V_nextKept_2 rfl rfl ?_
    refine J.aload_n d_V_nextKept_3 rfl rfl ?_
    refine J.getfield d_V_nextKept_4 fl_V_18 rfl rfl ?_
    refine J.getfield d_V_nextKept_7 fl_V_142 rfl rfl ?_
    refine J.icmp_geN d_V_nextKept_10 (tgt := 32) (by decide) (by omega) (by omega) (fun h => ?_) (fun h => ?_)
    · rw [show nkB (lsB pl o s) (K + Mo) (j + 1) i = i by unfold nkB; rw [if_neg (by omega)]]
      refine J.iload_n d_V_nextKept_32 rfl rfl ?_
      exact J.ireturn d_V_nextKept_33 rfl (by decide) (by decide)
    · have hix := ix56 hS hs h
      have hc := con_G_placeOf (l := l) (K := K) (Mo := Mo) (dl := dl) (ol := ol) (dr := dr) (ou := ou) (da := da) (eq := eq) (al := al) (fr := frOf us) (tk := tkOf us) (by_ := byOf by_) (ln := ln) (pl := plOf (K + Mo) pl) (X := X) (r := o * 56 + s * (K + Mo)) (h := i) (by omega)
      rw [pl_at pl hS hs h] at hc
      have ht : tr (pl (56 * o + 7 * s + i)) < 2 ^ 30 := by have := pl_lt (Sh := K + Mo) hp (o * 56 + s * (K + Mo) + i); rwa [pl_at pl hS hs h] at this
      refine J.aload_n d_V_nextKept_13 rfl rfl ?_
      refine J.getfield d_V_nextKept_14 fl_V_32 rfl rfl ?_
      refine J.iload_n d_V_nextKept_17 rfl rfl ?_
      refine J.iload_n d_V_nextKept_18 rfl rfl ?_
      refine J.v2i hc k_V_nextKept_G_placeOf d_V_nextKept_19 rfl rfl rfl ?_
      refine J.iconst d_V_nextKept_22 (v := pI 0) (by decide) ?_
      refine J.icmp_neP d_V_nextKept_23 (tgt := 32) (by decide) (by omega) (by omega) (fun q => ?_) (fun q => ?_)
      · rw [show nkB (lsB pl o s) (K + Mo) (j + 1) i = i by unfold nkB; rw [if_neg (fun z => q (tr_eq0.mpr (by simpa [lsB] using z.2)))]]
        refine J.iload_n d_V_nextKept_32 rfl rfl ?_
        exact J.ireturn d_V_nextKept_33 rfl (by decide) (by decide)
      · have e : nkB (lsB pl o s) (K + Mo) (j + 1) i = nkB (lsB pl o s) (K + Mo) j (i + 1) := by
          show (if _ then _ else _) = _
          rw [if_pos ⟨h, by simpa [lsB] using tr_eq0.mp q⟩]
        rw [e]
        refine J.iincN d_V_nextKept_26 rfl rfl (by decide) rfl ?_
        refine J.goto d_V_nextKept_29 (tgt := 2) (by decide) ?_
        exact lp_V_next hS ho hs hp j (i + 1) (by omega) (by omega)
theorem con_V_nextKept {o s a : Nat} (hS : K + Mo ≤ 7) (ho : o < 6) (hs : s < 8) (hp : ∀ i, pl i ≤ 80) (ha : a ≤ K + Mo + 1) : Con l i_V_nextKept [.ref 0, .int (nI (o * 56 + s * (K + Mo))), .int (nI a)] (CA K Mo dr dl ou ol da eq al us by_ ln pl X) (.inl (some (.int (nI (nkB (lsB pl o s) (K + Mo) 7 a))), (CA K Mo dr dl ou ol da eq al us by_ ln pl X))) := by
  refine Con.of ?_
  refine J.iload_n d_V_nextKept_0 rfl rfl ?_
  refine J.istore_n d_V_nextKept_1 rfl (by decide) rfl ?_
  exact lp_V_next hS ho hs hp 7 a (by omega) ha
/-- a line of the data set, its first n bytes -/
def d4 (da : Nat → Nat) (line : Nat) (g : Nat → Nat) : Nat → Nat → Nat
  | 0 => da
  | n + 1 => up (d4 da line g n) (line * 4 + n) (g n)
/-- a stripe's bytes, by shard and number -/
def vb (pl by_ : Nat → Nat) (o s : Nat) : Nat → Nat → Nat := fun h t => by_ (4 * (pl (56 * o + 7 * s + h) - 1) + t)
theorem lp_V_give {p line h : Nat} {r : Value} (hK4 : K ≤ 4) (hl : line < K) (hp : p < 80) : ∀ (j i : Nat), i + j = 4 →
    J l i_V_giveEquation 45 [(0, .ref 0), (1, r), (2, .int (nI line)), (3, .int (nI h)), (4, .int (nI (16 * (p / 10) + p % 10))), (5, .int (nI i))] [] (CA K Mo dr dl ou ol (d4 da line (fun t => by_ (4 * p + t)) i) eq al us by_ ln pl X) 0 0 (.inl (none, (CA K Mo dr dl ou ol (d4 da line (fun t => by_ (4 * p + t)) 4) eq al us by_ ln pl X)))
  | 0, i, hi => by
    refine J.iload d_V_giveEquation_45 rfl ?_
    refine J.iconst d_V_giveEquation_47 (v := nI 4) (by decide) ?_
    refine J.icmp_geN d_V_giveEquation_48 (tgt := 82) (by decide) (by omega) (by omega) (fun h => ?_) (fun h => ?_)
    · rw [show i = 4 by omega]
      exact J.vreturn d_V_giveEquation_82 rfl (by decide) (by decide)
    · omega
  | j + 1, i, hi => by
    have hi4 : i < 4 := by omega
    have ih := lp_V_give (h := h) (r := r) hK4 hl hp j (i + 1) (by omega)
    have hb := con_D_byteAt (l := l) (K := K) (Mo := Mo) (dl := dl) (ol := ol) (dr := dr) (ou := ou) (da := d4 da line (fun t => by_ (4 * p + t)) i) (eq := eq) (al := al) (fr := frOf us) (tk := tkOf us) (by_ := byOf by_) (ln := ln) (pl := plOf (K + Mo) pl) (X := X) (q := 16 * (p / 10) + p % 10) (t := i) (by omega) hi4
    rw [by_at by_ (by omega) hi4, show 10 * (p / 10) + p % 10 = p by omega] at hb
    refine J.iload d_V_giveEquation_45 rfl ?_
    refine J.iconst d_V_giveEquation_47 (v := nI 4) (by decide) ?_
    refine J.icmp_geN d_V_giveEquation_48 (tgt := 82) (by decide) (by omega) (by omega) (fun h => ?_) (fun h => ?_)
    · omega
    refine J.aload_n d_V_giveEquation_51 rfl rfl ?_
    refine J.getfield d_V_giveEquation_52 fl_V_18 rfl rfl ?_
    refine J.getfield d_V_giveEquation_55 fl_V_187 rfl rfl ?_
    refine J.iload_n d_V_giveEquation_58 rfl rfl ?_
    refine J.iconst d_V_giveEquation_59 (v := nI 4) (by decide) ?_
    refine J.imulN d_V_giveEquation_60 ?_
    refine J.iload d_V_giveEquation_61 rfl ?_
    refine J.iaddN d_V_giveEquation_63 ?_
    refine J.aload_n d_V_giveEquation_64 rfl rfl ?_
    refine J.getfield d_V_giveEquation_65 fl_V_25 rfl rfl ?_
    refine J.iload d_V_giveEquation_68 rfl ?_
    refine J.iload d_V_giveEquation_70 rfl ?_
    refine J.v2i hb k_V_giveEquation_D_byteAt d_V_giveEquation_72 rfl rfl rfl ?_
    refine J.iastoreN d_V_giveEquation_75 rfl (by omega) (by omega) ?_
    refine J.iincN d_V_giveEquation_76 rfl rfl (by decide) rfl ?_
    refine J.goto d_V_giveEquation_79 (tgt := 45) (by decide) ?_
    exact ih
theorem con_V_giveEquation {o s line h : Nat} (hK : 0 < K) (hK4 : K ≤ 4) (hM : Mo ≤ 3) (ho : o < 6) (hs : s < 8) (hp : ∀ i, pl i ≤ 80) (hl : line < K) (hh : h < K + Mo) (hk : lsB pl o s h = false) :
    Con l i_V_giveEquation [.ref 0, .int (nI (o * 56 + s * (K + Mo))), .int (nI line), .int (nI h)] (CA K Mo dr dl ou ol da eq al us by_ ln pl X) (.inl (none, (CA K Mo dr dl ou ol (d4 da line (vb pl by_ o s h) 4) (va_cpy (fac K) eq (h * K) (line * K) K) al us by_ ln pl X))) := by
  have hS : K + Mo ≤ 7 := by omega
  have hix := ix56 hS hs hh
  have hc := con_G_placeOf (l := l) (K := K) (Mo := Mo) (dl := dl) (ol := ol) (dr := dr) (ou := ou) (da := da) (eq := eq) (al := al) (fr := frOf us) (tk := tkOf us) (by_ := byOf by_) (ln := ln) (pl := plOf (K + Mo) pl) (X := X) (r := o * 56 + s * (K + Mo)) (h := h) (by omega)
  rw [pl_at pl hS hs hh] at hc
  have h0 : pl (56 * o + 7 * s + h) ≠ 0 := by simpa [lsB] using hk
  obtain ⟨p, ep⟩ : ∃ p, pl (56 * o + 7 * s + h) = p + 1 := ⟨pl (56 * o + 7 * s + h) - 1, by omega⟩
  have hp80 : p < 80 := by have := hp (56 * o + 7 * s + h); omega
  have ev : vb pl by_ o s h = fun t => by_ (4 * p + t) := by funext t; unfold vb; rw [ep, Nat.add_sub_cancel]
  rw [ep, tr_s, pI_succ] at hc
  rw [ev]
  refine Con.of ?_
  refine J.iload_n d_V_giveEquation_0 rfl rfl ?_
  refine J.aload_n d_V_giveEquation_1 rfl rfl ?_
  refine J.getfield d_V_giveEquation_2 fl_V_18 rfl rfl ?_
  refine J.getfield d_V_giveEquation_5 fl_V_142 rfl rfl ?_
  refine J.icmp_geN d_V_giveEquation_8 (tgt := 23) (by decide) (by omega) (by omega) (fun h1 => ?_) (fun h1 => ?_)
  · omega
  refine J.aload_n d_V_giveEquation_11 rfl rfl ?_
  refine J.getfield d_V_giveEquation_12 fl_V_32 rfl rfl ?_
  refine J.iload_n d_V_giveEquation_15 rfl rfl ?_
  refine J.iload_n d_V_giveEquation_16 rfl rfl ?_
  refine J.v2i hc k_V_giveEquation_G_placeOf d_V_giveEquation_17 rfl rfl rfl ?_
  refine J.goto d_V_giveEquation_20 (tgt := 24) (by decide) ?_
  refine J.istore d_V_giveEquation_24 (by decide) rfl ?_
  refine J.iload d_V_giveEquation_26 rfl ?_
  refine J.iconst d_V_giveEquation_28 (v := pI 0) (by decide) ?_
  refine J.icmp_neK d_V_giveEquation_29 (tgt := 33) (by decide) (by omega) ?_
  refine J.aload_n d_V_giveEquation_33 rfl rfl ?_
  refine J.getfield d_V_giveEquation_34 fl_V_18 rfl rfl ?_
  refine J.iload_n d_V_giveEquation_37 rfl rfl ?_
  refine J.iload_n d_V_giveEquation_38 rfl rfl ?_
  refine J.v2v (con_C_setEquation hK hK4 hM hh hl) k_V_giveEquation_C_setEquation d_V_giveEquation_39 rfl rfl rfl ?_
  refine J.iconst d_V_giveEquation_42 (v := nI 0) (by decide) ?_
  refine J.istore d_V_giveEquation_43 (by decide) rfl ?_
  exact lp_V_give hK4 hl hp80 4 0 (by omega)
/-- the shards taken for the lines ahead of n: where to go on, 1 if none is lost, which -/
def selS (ls : Nat → Bool) (K Sh : Nat) : Nat → Nat × Nat × (Nat → Nat)
  | 0 => (K, 1, fun _ => 0)
  | j + 1 => if ls j = true then (nkB ls Sh 7 (selS ls K Sh j).1 + 1, 0, up (selS ls K Sh j).2.2 j (nkB ls Sh 7 (selS ls K Sh j).1)) else ((selS ls K Sh j).1, (selS ls K Sh j).2.1, up (selS ls K Sh j).2.2 j j)
/-- the lines' factors -/
def eqL (K : Nat) (eq : Nat → Nat) (t : Nat → Nat) : Nat → Nat → Nat
  | 0 => eq
  | j + 1 => va_cpy (fac K) (eqL K eq t j) (t j * K) (j * K) K
/-- .. and their bytes -/
def daL (da : Nat → Nat) (v : Nat → Nat → Nat) (t : Nat → Nat) : Nat → Nat → Nat
  | 0 => da
  | j + 1 => d4 (daL da v t j) j (v (t j)) 4
/-- each line's shard is there -/
def selOk (ls : Nat → Bool) (K Sh : Nat) : Prop := ∀ j, j < K → (selS ls K Sh (j + 1)).2.2 j < Sh ∧ ls ((selS ls K Sh (j + 1)).2.2 j) = false ∧ (selS ls K Sh j).1 ≤ Sh ∧ (selS ls K Sh K).2.2 j = (selS ls K Sh (j + 1)).2.2 j
/-- what the class has read -/
def rdC (K Sh : Nat) (ls : Nat → Bool) (v : Nat → Nat → Nat) (eq da : Nat → Nat) : ED :=
  if (selS ls K Sh K).2.1 = 0 then pvs K K (eqL K eq (selS ls K Sh K).2.2 K, daL da v (selS ls K Sh K).2.2 K) else (eqL K eq (selS ls K Sh K).2.2 K, daL da v (selS ls K Sh K).2.2 K)
theorem cpy_lt {f g : Nat → Nat} {a b n : Nat} (hf : ∀ i, f i < 256) (hg : ∀ i, g i < 256) (i : Nat) : va_cpy f g a b n i < 256 := by
  unfold va_cpy; split
  · exact hf _
  · exact hg _
theorem up_lt {f : Nat → Nat} {i v m : Nat} (hf : ∀ i, f i < m) (hv : v < m) (j : Nat) : up f i v j < m := by
  unfold up; split
  · exact hv
  · exact hf j
theorem eqL_lt {K : Nat} {eq t : Nat → Nat} (he : ∀ i, eq i < 256) : ∀ n i, eqL K eq t n i < 256
  | 0, i => he i
  | n + 1, i => cpy_lt (fac_lt K) (eqL_lt he n) i
theorem d4_lt {da : Nat → Nat} {line : Nat} {g : Nat → Nat} (hd : ∀ i, da i < 256) (hg : ∀ t, g t < 256) : ∀ n i, d4 da line g n i < 256
  | 0, i => hd i
  | n + 1, i => up_lt (d4_lt hd hg n) (hg n) i
theorem daL_lt {da : Nat → Nat} {v : Nat → Nat → Nat} {t : Nat → Nat} (hd : ∀ i, da i < 256) (hv : ∀ h t, v h t < 256) : ∀ n i, daL da v t n i < 256
  | 0, i => hd i
  | n + 1, i => d4_lt (daL_lt hd hv n) (hv _) 4 i
theorem lp_V_read {o s : Nat} (hK : 0 < K) (hK4 : K ≤ 4) (hM : Mo ≤ 3) (ho : o < 6) (hs : s < 8) (hp : ∀ i, pl i ≤ 80) (hok : selOk (lsB pl o s) K (K + Mo)) (he : ∀ i, eq i < 256) (hda : ∀ i, da i < 256) (hby : ∀ i, by_ i < 256) : ∀ (j i : Nat), i + j = K →
    J l i_V_readStripe 13 [(0, .ref 0), (1, .int (nI (o * 56 + s * (K + Mo)))), (2, .int (nI (selS (lsB pl o s) K (K + Mo) i).1)), (3, .int (nI (selS (lsB pl o s) K (K + Mo) i).2.1)), (4, .int (nI i))] [] (CA K Mo dr dl ou ol (daL da (vb pl by_ o s) (selS (lsB pl o s) K (K + Mo) K).2.2 i) (eqL K eq (selS (lsB pl o s) K (K + Mo) K).2.2 i) al us by_ ln pl X) 0 0 (.inl (none, (CA K Mo dr dl ou ol ((rdC K (K + Mo) (lsB pl o s) (vb pl by_ o s) eq da).2) ((rdC K (K + Mo) (lsB pl o s) (vb pl by_ o s) eq da).1) al us by_ ln pl X)))
  | 0, i, hi => by
    have hi' : i = K := by omega
    subst hi'
    have hw : (selS (lsB pl o s) i (i + Mo) i).2.1 < 2 ^ 31 := by
      have : ∀ n, (selS (lsB pl o s) i (i + Mo) n).2.1 ≤ 1 := by
        intro n
        induction n with
        | zero => exact Nat.le_refl _
        | succ n ih => unfold selS; split <;> simp_all
      have := this i; omega
    refine J.iload d_V_readStripe_13 rfl ?_
    refine J.aload_n d_V_readStripe_15 rfl rfl ?_
    refine J.getfield d_V_readStripe_16 fl_V_18 rfl rfl ?_
    refine J.getfield d_V_readStripe_19 fl_V_214 rfl rfl ?_
    refine J.icmp_geN d_V_readStripe_22 (tgt := 73) (by decide) (by omega) (by omega) (fun h => ?_) (fun h => ?_)
    · unfold rdC
      refine J.iload_n d_V_readStripe_73 rfl rfl ?_
      refine J.if_neN d_V_readStripe_74 (tgt := 84) (by decide) (by omega) (fun h2 => ?_) (fun h2 => ?_)
      · rw [if_neg h2]
        exact J.vreturn d_V_readStripe_84 rfl (by decide) (by decide)
      · rw [if_pos h2]
        refine J.aload_n d_V_readStripe_77 rfl rfl ?_
        refine J.getfield d_V_readStripe_78 fl_V_18 rfl rfl ?_
        refine J.v0v (con_C_solve hK hK4 (eqL_lt he i) (daL_lt hda (fun h t => hby _) i)) k_V_readStripe_C_solve d_V_readStripe_81 rfl rfl rfl ?_
        exact J.vreturn d_V_readStripe_84 rfl (by decide) (by decide)
    · omega
  | j + 1, i, hi => by
    have hS : K + Mo ≤ 7 := by omega
    have hiK : i < K := by omega
    obtain ⟨o1, o2, o3, o4⟩ := hok i hiK
    have hh : i < K + Mo := by omega
    have hix := ix56 hS hs hh
    have ih := lp_V_read hK hK4 hM ho hs hp hok he hda hby j (i + 1) (by omega)
    have hc := fun (da' eq' : Nat → Nat) => con_G_placeOf (l := l) (K := K) (Mo := Mo) (dl := dl) (ol := ol) (dr := dr) (ou := ou) (da := da') (eq := eq') (al := al) (fr := frOf us) (tk := tkOf us) (by_ := byOf by_) (ln := ln) (pl := plOf (K + Mo) pl) (X := X) (r := o * 56 + s * (K + Mo)) (h := i) (by omega)
    rw [pl_at pl hS hs hh] at hc
    have ht : tr (pl (56 * o + 7 * s + i)) < 2 ^ 30 := by have := pl_lt (Sh := K + Mo) hp (o * 56 + s * (K + Mo) + i); rwa [pl_at pl hS hs hh] at this
    simp only [eqL, daL, o4] at ih
    refine J.iload d_V_readStripe_13 rfl ?_
    refine J.aload_n d_V_readStripe_15 rfl rfl ?_
    refine J.getfield d_V_readStripe_16 fl_V_18 rfl rfl ?_
    refine J.getfield d_V_readStripe_19 fl_V_214 rfl rfl ?_
    refine J.icmp_geN d_V_readStripe_22 (tgt := 73) (by decide) (by omega) (by omega) (fun h => ?_) (fun h => ?_)
    · omega
    refine J.iload d_V_readStripe_25 rfl ?_
    refine J.istore d_V_readStripe_27 (by decide) rfl ?_
    refine J.aload_n d_V_readStripe_29 rfl rfl ?_
    refine J.getfield d_V_readStripe_30 fl_V_32 rfl rfl ?_
    refine J.iload_n d_V_readStripe_33 rfl rfl ?_
    refine J.iload d_V_readStripe_34 rfl ?_
    refine J.v2i (hc _ _) k_V_readStripe_G_placeOf d_V_readStripe_36 rfl rfl rfl ?_
    refine J.iconst d_V_readStripe_39 (v := pI 0) (by decide) ?_
    refine J.icmp_neP d_V_readStripe_40 (tgt := 58) (by decide) (by omega) (by omega) (fun q => ?_) (fun q => ?_)
    · have hl0 : lsB pl o s i = false := by simpa [lsB] using fun z => q (tr_eq0.mpr z)
      have es : selS (lsB pl o s) K (K + Mo) (i + 1) = ((selS (lsB pl o s) K (K + Mo) i).1, (selS (lsB pl o s) K (K + Mo) i).2.1, up (selS (lsB pl o s) K (K + Mo) i).2.2 i i) := by
        show (if _ then _ else _) = _
        rw [if_neg (by rw [hl0]; decide)]
      rw [es] at ih o1 o2
      simp only [up_self] at ih o1 o2
      refine J.aload_n d_V_readStripe_58 rfl rfl ?_
      refine J.iload_n d_V_readStripe_59 rfl rfl ?_
      refine J.iload d_V_readStripe_60 rfl ?_
      refine J.iload d_V_readStripe_62 rfl ?_
      refine J.v3v (con_V_giveEquation hK hK4 hM ho hs hp hiK o1 o2) k_V_readStripe_V_giveEquation d_V_readStripe_64 rfl rfl rfl ?_
      refine J.iincN d_V_readStripe_67 rfl rfl (by decide) rfl ?_
      refine J.goto d_V_readStripe_70 (tgt := 13) (by decide) ?_
      exact J.sub [0, 1, 2, 3, 4] ih
    · have hl1 : lsB pl o s i = true := by simpa [lsB] using tr_eq0.mp q
      have es : selS (lsB pl o s) K (K + Mo) (i + 1) = (nkB (lsB pl o s) (K + Mo) 7 (selS (lsB pl o s) K (K + Mo) i).1 + 1, 0, up (selS (lsB pl o s) K (K + Mo) i).2.2 i (nkB (lsB pl o s) (K + Mo) 7 (selS (lsB pl o s) K (K + Mo) i).1)) := by
        show (if _ then _ else _) = _
        rw [if_pos hl1]
      rw [es] at ih o1 o2
      simp only [up_self] at ih o1 o2
      refine J.iconst d_V_readStripe_43 (v := nI 0) (by decide) ?_
      refine J.istore_n d_V_readStripe_44 rfl (by decide) rfl ?_
      refine J.aload_n d_V_readStripe_45 rfl rfl ?_
      refine J.iload_n d_V_readStripe_46 rfl rfl ?_
      refine J.iload_n d_V_readStripe_47 rfl rfl ?_
      refine J.v2i (con_V_nextKept hS ho hs hp (by omega)) k_V_readStripe_V_nextKept d_V_readStripe_48 rfl rfl rfl ?_
      refine J.istore_n d_V_readStripe_51 rfl (by decide) rfl ?_
      refine J.iload_n d_V_readStripe_52 rfl rfl ?_
      refine J.istore d_V_readStripe_53 (by decide) rfl ?_
      refine J.iincN d_V_readStripe_55 rfl rfl (by decide) rfl ?_
      refine J.aload_n d_V_readStripe_58 rfl rfl ?_
      refine J.iload_n d_V_readStripe_59 rfl rfl ?_
      refine J.iload d_V_readStripe_60 rfl ?_
      refine J.iload d_V_readStripe_62 rfl ?_
      refine J.v3v (con_V_giveEquation hK hK4 hM ho hs hp hiK o1 o2) k_V_readStripe_V_giveEquation d_V_readStripe_64 rfl rfl rfl ?_
      refine J.iincN d_V_readStripe_67 rfl rfl (by decide) rfl ?_
      refine J.goto d_V_readStripe_70 (tgt := 13) (by decide) ?_
      exact J.sub [0, 1, 2, 3, 4] ih
theorem con_V_readStripe {o s : Nat} (hK : 0 < K) (hK4 : K ≤ 4) (hM : Mo ≤ 3) (ho : o < 6) (hs : s < 8) (hp : ∀ i, pl i ≤ 80) (hok : selOk (lsB pl o s) K (K + Mo)) (he : ∀ i, eq i < 256) (hda : ∀ i, da i < 256) (hby : ∀ i, by_ i < 256) :
    Con l i_V_readStripe [.ref 0, .int (nI (o * 56 + s * (K + Mo)))] (CA K Mo dr dl ou ol da eq al us by_ ln pl X) (.inl (none, (CA K Mo dr dl ou ol ((rdC K (K + Mo) (lsB pl o s) (vb pl by_ o s) eq da).2) ((rdC K (K + Mo) (lsB pl o s) (vb pl by_ o s) eq da).1) al us by_ ln pl X))) := by
  refine Con.of ?_
  refine J.aload_n d_V_readStripe_0 rfl rfl ?_
  refine J.getfield d_V_readStripe_1 fl_V_18 rfl rfl ?_
  refine J.getfield d_V_readStripe_4 fl_V_214 rfl rfl ?_
  refine J.istore_n d_V_readStripe_7 rfl (by decide) rfl ?_
  refine J.iconst d_V_readStripe_8 (v := nI 1) (by decide) ?_
  refine J.istore_n d_V_readStripe_9 rfl (by decide) rfl ?_
  refine J.iconst d_V_readStripe_10 (v := nI 0) (by decide) ?_
  refine J.istore d_V_readStripe_11 (by decide) rfl ?_
  exact lp_V_read hK hK4 hM ho hs hp hok he hda hby K 0 (by omega)
end READ
end
section
/-! Checking, repairing, storing, releasing: the class's side -/
section WORK
variable {l : Launch} {K Mo dl ol : Nat} {dr ou da eq al us by_ ln pl : Nat → Nat} {X : List va_E}
theorem anyB_not {p : Nat → Bool} {i : Nat} (hp : p i = false) (h : anyB p i = false) : anyB p (i + 1) = false := by simp [anyB, hp, h]
/-- a byte at p isn't as worked out -/
def wr (K : Nat) (da by_ : Nat → Nat) (p h : Nat) : Nat → Bool := fun t => decide (by_ (4 * p + t) ≠ sb K da h t)
theorem sb_lt {K : Nat} {da : Nat → Nat} (hda : ∀ i, da i < 256) (h t : Nat) : sb K da h t < 256 := by
  unfold sb; split
  · exact hda _
  · exact wk_lt K
theorem lp_V_asW {p h : Nat} (hK : 0 < K) (hK4 : K ≤ 4) (hM : Mo ≤ 3) (hh : h < K + Mo) (hda : ∀ i, da i < 256) (hby : ∀ i, by_ i < 256) (hp : p < 80) : ∀ (j i : Nat), i + j = 4 → anyB (wr K da by_ p h) i = false →
    J l i_V_isAsWorkedOut 2 [(0, .ref 0), (1, .int (nI (16 * (p / 10) + p % 10))), (2, .int (nI h)), (3, .int (nI i))] [] (CA K Mo dr dl ou ol da eq al us by_ ln pl X) 0 0 (.inl (some (.int (nI (b2n (!(anyB (wr K da by_ p h) 4))))), (CA K Mo dr dl ou ol da eq al us by_ ln pl X)))
  | 0, i, hi, ha => by
    refine J.iload_n d_V_isAsWorkedOut_2 rfl rfl ?_
    refine J.iconst d_V_isAsWorkedOut_3 (v := nI 4) (by decide) ?_
    refine J.icmp_geN d_V_isAsWorkedOut_4 (tgt := 36) (by decide) (by omega) (by omega) (fun h => ?_) (fun h => ?_)
    · rw [show i = 4 by omega] at ha
      rw [ha]
      refine J.iconst d_V_isAsWorkedOut_36 (v := nI 1) (by decide) ?_
      first | exact J.zreturn d_V_isAsWorkedOut_37 rfl rfl (by decide) (by decide) | exact J.zreturnN d_V_isAsWorkedOut_37 rfl (by omega) (by decide) (by decide)
    · omega
  | j + 1, i, hi, ha => by
    have hi4 : i < 4 := by omega
    have hb := con_D_byteAt (l := l) (K := K) (Mo := Mo) (dl := dl) (ol := ol) (dr := dr) (ou := ou) (da := da) (eq := eq) (al := al) (fr := frOf us) (tk := tkOf us) (by_ := byOf by_) (ln := ln) (pl := plOf (K + Mo) pl) (X := X) (q := 16 * (p / 10) + p % 10) (t := i) (by omega) hi4
    rw [by_at by_ (by omega) hi4, show 10 * (p / 10) + p % 10 = p by omega] at hb
    have h1 := hby (4 * p + i)
    have h2 := sb_lt (K := K) hda h i
    refine J.iload_n d_V_isAsWorkedOut_2 rfl rfl ?_
    refine J.iconst d_V_isAsWorkedOut_3 (v := nI 4) (by decide) ?_
    refine J.icmp_geN d_V_isAsWorkedOut_4 (tgt := 36) (by decide) (by omega) (by omega) (fun hq => ?_) (fun hq => ?_)
    · omega
    refine J.aload_n d_V_isAsWorkedOut_7 rfl rfl ?_
    refine J.getfield d_V_isAsWorkedOut_8 fl_V_25 rfl rfl ?_
    refine J.iload_n d_V_isAsWorkedOut_11 rfl rfl ?_
    refine J.iload_n d_V_isAsWorkedOut_12 rfl rfl ?_
    refine J.v2i hb k_V_isAsWorkedOut_D_byteAt d_V_isAsWorkedOut_13 rfl rfl rfl ?_
    refine J.aload_n d_V_isAsWorkedOut_16 rfl rfl ?_
    refine J.getfield d_V_isAsWorkedOut_17 fl_V_18 rfl rfl ?_
    refine J.iload_n d_V_isAsWorkedOut_20 rfl rfl ?_
    refine J.iload_n d_V_isAsWorkedOut_21 rfl rfl ?_
    refine J.v2i (con_C_shardByte hK hK4 hM hh hi4 hda) k_V_isAsWorkedOut_C_shardByte d_V_isAsWorkedOut_22 rfl rfl rfl ?_
    refine J.icmp_eqN d_V_isAsWorkedOut_25 (tgt := 30) (by decide) (by omega) (by omega) (fun h3 => ?_) (fun h3 => ?_)
    · refine J.iincN d_V_isAsWorkedOut_30 rfl rfl (by decide) rfl ?_
      refine J.goto d_V_isAsWorkedOut_33 (tgt := 2) (by decide) ?_
      exact lp_V_asW hK hK4 hM hh hda hby hp j (i + 1) (by omega) (anyB_not (by simpa [wr] using h3) ha)
    · rw [anyB_true (p := wr K da by_ p h) (i := i) (by simpa [wr] using h3) 4 hi4]
      refine J.iconst d_V_isAsWorkedOut_28 (v := nI 0) (by decide) ?_
      first | exact J.zreturn d_V_isAsWorkedOut_29 rfl rfl (by decide) (by decide) | exact J.zreturnN d_V_isAsWorkedOut_29 rfl (by omega) (by decide) (by decide)
theorem con_V_isAsWorkedOut {p h : Nat} (hK : 0 < K) (hK4 : K ≤ 4) (hM : Mo ≤ 3) (hh : h < K + Mo) (hda : ∀ i, da i < 256) (hby : ∀ i, by_ i < 256) (hp : p < 80) : Con l i_V_isAsWorkedOut [.ref 0, .int (nI (16 * (p / 10) + p % 10)), .int (nI h)] (CA K Mo dr dl ou ol da eq al us by_ ln pl X) (.inl (some (.int (nI (b2n (!(anyB (wr K da by_ p h) 4))))), (CA K Mo dr dl ou ol da eq al us by_ ln pl X))) := by
  refine Con.of ?_
  refine J.iconst d_V_isAsWorkedOut_0 (v := nI 0) (by decide) ?_
  refine J.istore_n d_V_isAsWorkedOut_1 rfl (by decide) rfl ?_
  exact lp_V_asW hK hK4 hM hh hda hby hp 4 0 (by omega) rfl
/-- a kept shard isn't as worked out -/
def ws1 (K : Nat) (da by_ pl : Nat → Nat) (o s : Nat) : Nat → Bool := fun h => !(lsB pl o s h) && anyB (wr K da by_ (pl (56 * o + 7 * s + h) - 1) h) 4
theorem lp_V_hasW {o s : Nat} (hK : 0 < K) (hK4 : K ≤ 4) (hM : Mo ≤ 3) (ho : o < 6) (hs : s < 8) (hp : ∀ i, pl i ≤ 80) (hda : ∀ i, da i < 256) (hby : ∀ i, by_ i < 256) : ∀ (j i : Nat), i + j = K + Mo → anyB (ws1 K da by_ pl o s) i = false →
    J l i_V_hasWrongShard 7 [(0, .ref 0), (1, .int (nI (o * 56 + s * (K + Mo)))), (2, .int (nI i))] [] (CA K Mo dr dl ou ol da eq al us by_ ln pl X) 0 0 (.inl (some (.int (nI (b2n (anyB (ws1 K da by_ pl o s) (K + Mo))))), (CA K Mo dr dl ou ol da eq al us by_ ln pl X)))
  | 0, i, hi, ha => by
    refine J.iload_n d_V_hasWrongShard_7 rfl rfl ?_
    refine J.aload_n d_V_hasWrongShard_8 rfl rfl ?_
    refine J.getfield d_V_hasWrongShard_9 fl_V_18 rfl rfl ?_
    refine J.getfield d_V_hasWrongShard_12 fl_V_142 rfl rfl ?_
    refine J.icmp_geN d_V_hasWrongShard_15 (tgt := 50) (by decide) (by omega) (by omega) (fun h => ?_) (fun h => ?_)
    · rw [show i = K + Mo by omega] at ha
      rw [ha]
      refine J.iconst d_V_hasWrongShard_50 (v := nI 0) (by decide) ?_
      first | exact J.zreturn d_V_hasWrongShard_51 rfl rfl (by decide) (by decide) | exact J.zreturnN d_V_hasWrongShard_51 rfl (by omega) (by decide) (by decide)
    · omega
  | j + 1, i, hi, ha => by
    have hS : K + Mo ≤ 7 := by omega
    have hh : i < K + Mo := by omega
    have hix := ix56 hS hs hh
    have hc := con_G_placeOf (l := l) (K := K) (Mo := Mo) (dl := dl) (ol := ol) (dr := dr) (ou := ou) (da := da) (eq := eq) (al := al) (fr := frOf us) (tk := tkOf us) (by_ := byOf by_) (ln := ln) (pl := plOf (K + Mo) pl) (X := X) (r := o * 56 + s * (K + Mo)) (h := i) (by omega)
    rw [pl_at pl hS hs hh] at hc
    refine J.iload_n d_V_hasWrongShard_7 rfl rfl ?_
    refine J.aload_n d_V_hasWrongShard_8 rfl rfl ?_
    refine J.getfield d_V_hasWrongShard_9 fl_V_18 rfl rfl ?_
    refine J.getfield d_V_hasWrongShard_12 fl_V_142 rfl rfl ?_
    refine J.icmp_geN d_V_hasWrongShard_15 (tgt := 50) (by decide) (by omega) (by omega) (fun h => ?_) (fun h => ?_)
    · omega
    refine J.aload_n d_V_hasWrongShard_18 rfl rfl ?_
    refine J.getfield d_V_hasWrongShard_19 fl_V_32 rfl rfl ?_
    refine J.iload_n d_V_hasWrongShard_22 rfl rfl ?_
    refine J.iload_n d_V_hasWrongShard_23 rfl rfl ?_
    rcases Nat.eq_zero_or_pos (pl (56 * o + 7 * s + i)) with h0 | h0
    · rw [h0, tr_0] at hc
      refine J.v2i hc k_V_hasWrongShard_G_placeOf d_V_hasWrongShard_24 rfl rfl rfl ?_
      refine J.istore_n d_V_hasWrongShard_27 rfl (by decide) rfl ?_
      refine J.iload_n d_V_hasWrongShard_28 rfl rfl ?_
      refine J.iconst d_V_hasWrongShard_29 (v := pI 0) (by decide) ?_
      refine J.icmp_eqP d_V_hasWrongShard_30 (tgt := 44) (by decide) (by omega) (by omega) (fun _ => ?_) (fun q => absurd rfl q)
      refine J.iincN d_V_hasWrongShard_44 rfl rfl (by decide) rfl ?_
      refine J.goto d_V_hasWrongShard_47 (tgt := 7) (by decide) ?_
      exact J.sub [0, 1, 2] (lp_V_hasW hK hK4 hM ho hs hp hda hby j (i + 1) (by omega) (anyB_not (by simp [ws1, lsB, h0]) ha))
    · obtain ⟨p, ep⟩ : ∃ p, pl (56 * o + 7 * s + i) = p + 1 := ⟨pl (56 * o + 7 * s + i) - 1, by omega⟩
      have hp80 : p < 80 := by have := hp (56 * o + 7 * s + i); omega
      rw [ep, tr_s, pI_succ] at hc
      have ew : ws1 K da by_ pl o s i = anyB (wr K da by_ p i) 4 := by simp [ws1, lsB, ep]
      refine J.v2i hc k_V_hasWrongShard_G_placeOf d_V_hasWrongShard_24 rfl rfl rfl ?_
      refine J.istore_n d_V_hasWrongShard_27 rfl (by decide) rfl ?_
      refine J.iload_n d_V_hasWrongShard_28 rfl rfl ?_
      refine J.iconst d_V_hasWrongShard_29 (v := pI 0) (by decide) ?_
      refine J.icmp_eqK d_V_hasWrongShard_30 (tgt := 44) (by decide) (by omega) ?_
      refine J.aload_n d_V_hasWrongShard_33 rfl rfl ?_
      refine J.iload_n d_V_hasWrongShard_34 rfl rfl ?_
      refine J.iload_n d_V_hasWrongShard_35 rfl rfl ?_
      refine J.v2i (con_V_isAsWorkedOut hK hK4 hM hh hda hby hp80) k_V_hasWrongShard_V_isAsWorkedOut d_V_hasWrongShard_36 rfl rfl rfl ?_
      have hb := b2n_lt (!(anyB (wr K da by_ p i) 4))
      refine J.if_neN d_V_hasWrongShard_39 (tgt := 44) (by decide) (by omega) (fun h3 => ?_) (fun h3 => ?_)
      · refine J.iincN d_V_hasWrongShard_44 rfl rfl (by decide) rfl ?_
        refine J.goto d_V_hasWrongShard_47 (tgt := 7) (by decide) ?_
        refine J.sub [0, 1, 2] (lp_V_hasW hK hK4 hM ho hs hp hda hby j (i + 1) (by omega) (anyB_not ?_ ha))
        rw [ew]; cases hz : anyB (wr K da by_ p i) 4 <;> simp_all [b2n]
      · rw [anyB_true (p := ws1 K da by_ pl o s) (i := i) (by rw [ew]; cases hz : anyB (wr K da by_ p i) 4 <;> simp_all [b2n]) (K + Mo) hh]
        refine J.iconst d_V_hasWrongShard_42 (v := nI 1) (by decide) ?_
        first | exact J.zreturn d_V_hasWrongShard_43 rfl rfl (by decide) (by decide) | exact J.zreturnN d_V_hasWrongShard_43 rfl (by omega) (by decide) (by decide)
theorem rdC_b {K Sh : Nat} {ls : Nat → Bool} {v : Nat → Nat → Nat} {eq da : Nat → Nat} (he : ∀ i, eq i < 256) (hda : ∀ i, da i < 256) (hv : ∀ h t, v h t < 256) : b256 (rdC K Sh ls v eq da) := by
  unfold rdC; split
  · exact pvs_b ⟨eqL_lt he _, daL_lt hda hv _⟩ K
  · exact ⟨eqL_lt he _, daL_lt hda hv _⟩
theorem con_V_hasWrongShard {o s : Nat} (hK : 0 < K) (hK4 : K ≤ 4) (hM : Mo ≤ 3) (ho : o < 6) (hs : s < 8) (hp : ∀ i, pl i ≤ 80) (hok : selOk (lsB pl o s) K (K + Mo)) (he : ∀ i, eq i < 256) (hda : ∀ i, da i < 256) (hby : ∀ i, by_ i < 256) :
    Con l i_V_hasWrongShard [.ref 0, .int (nI (o * 56 + s * (K + Mo)))] (CA K Mo dr dl ou ol da eq al us by_ ln pl X) (.inl (some (.int (nI (b2n (anyB (ws1 K (rdC K (K + Mo) (lsB pl o s) (vb pl by_ o s) eq da).2 by_ pl o s) (K + Mo))))), (CA K Mo dr dl ou ol ((rdC K (K + Mo) (lsB pl o s) (vb pl by_ o s) eq da).2) ((rdC K (K + Mo) (lsB pl o s) (vb pl by_ o s) eq da).1) al us by_ ln pl X))) := by
  refine Con.of ?_
  refine J.aload_n d_V_hasWrongShard_0 rfl rfl ?_
  refine J.iload_n d_V_hasWrongShard_1 rfl rfl ?_
  refine J.v1v (con_V_readStripe hK hK4 hM ho hs hp hok he hda hby) k_V_hasWrongShard_V_readStripe d_V_hasWrongShard_2 rfl rfl rfl ?_
  refine J.iconst d_V_hasWrongShard_5 (v := nI 0) (by decide) ?_
  refine J.istore_n d_V_hasWrongShard_6 rfl (by decide) rfl ?_
  exact lp_V_hasW hK hK4 hM ho hs hp (rdC_b he hda (fun _ _ => hby _)).2 hby (K + Mo) 0 (by omega) rfl
/-- the slots, the bytes, the places -/
abbrev U3 : Type := (Nat → Nat) × (Nat → Nat) × (Nat → Nat)
def layU (K : Nat) (da al : Nat → Nat) (o s Sh h : Nat) (x : U3) : U3 := (up x.1 (gp al x.1 x.2.2 o s Sh - 1) 1, b4 x.2.1 (gp al x.1 x.2.2 o s Sh - 1) (sb K da h) 4, up x.2.2 (56 * o + 7 * s + h) (gp al x.1 x.2.2 o s Sh))
/-- what is always so -/
def okU (x : U3) : Prop := (∀ i, x.1 i < 2) ∧ (∀ i, x.2.1 i < 256) ∧ ∀ i, x.2.2 i ≤ 80
theorem gp_le (al us pl : Nat → Nat) (o s Sh : Nat) (h2 : ∀ i, us i < 2) : gp al us pl o s Sh ≤ 80 := by
  unfold gp; split
  · omega
  · rename_i hne
    have h1 := bdS_le al us pl o s Sh 8
    have h3 := bdS_free al us pl o s Sh 8 hne
    have h4 := ff_spec h2 h3.1
    omega
theorem b4_lt {by_ : Nat → Nat} {p : Nat} {f : Nat → Nat} (hb : ∀ i, by_ i < 256) (hf : ∀ t, f t < 256) : ∀ n i, b4 by_ p f n i < 256
  | 0, i => hb i
  | n + 1, i => up_lt (b4_lt hb hf n) (hf n) i
theorem layU_ok {K : Nat} {da al : Nat → Nat} {o s Sh h : Nat} {x : U3} (hx : okU x) (hda : ∀ i, da i < 256) : okU (layU K da al o s Sh h x) :=
  ⟨up_lt hx.1 (by decide), b4_lt hx.2.1 (sb_lt hda h) 4, fun i => by
    have := up_lt (f := x.2.2) (i := 56 * o + 7 * s + h) (v := gp al x.1 x.2.2 o s Sh) (m := 81) (fun i => by have := hx.2.2 i; omega) (by have := gp_le al x.1 x.2.2 o s Sh hx.1; omega) i
    show up _ _ _ i ≤ 80
    omega⟩
/-- the lost shards ahead of n placed again: how many, and what is there -/
def rpS (K : Nat) (da al : Nat → Nat) (o s Sh : Nat) (x : U3) : Nat → Nat × U3
  | 0 => (0, x)
  | h + 1 => if (rpS K da al o s Sh x h).2.2.2 (56 * o + 7 * s + h) = 0 ∧ gp al (rpS K da al o s Sh x h).2.1 (rpS K da al o s Sh x h).2.2.2 o s Sh ≠ 0 then ((rpS K da al o s Sh x h).1 + 1, layU K da al o s Sh h (rpS K da al o s Sh x h).2) else rpS K da al o s Sh x h
theorem rpS_ok {K : Nat} {da al : Nat → Nat} {o s Sh : Nat} {x : U3} (hx : okU x) (hda : ∀ i, da i < 256) : ∀ n, okU (rpS K da al o s Sh x n).2 ∧ (rpS K da al o s Sh x n).1 ≤ n
  | 0 => ⟨hx, Nat.le_refl _⟩
  | n + 1 => by
    have ih := rpS_ok (K := K) (al := al) (o := o) (s := s) (Sh := Sh) hx hda n
    unfold rpS; split
    · exact ⟨layU_ok ih.1 hda, by have := ih.2; show _ + 1 ≤ _; omega⟩
    · exact ⟨ih.1, by omega⟩
theorem lp_V_rep {o s : Nat} {x : U3} (hx : okU x) (hK : 0 < K) (hK4 : K ≤ 4) (hM : Mo ≤ 3) (ho : o < 6) (hs : s < 8) (ha : ∀ i, al i < 2) (hda : ∀ i, da i < 256) : ∀ (j i : Nat), i + j = K + Mo →
    J l i_V_repairStripe 30 [(0, .ref 0), (1, .int (nI (o * 56 + s * (K + Mo)))), (2, .int (nI (rpS K da al o s (K + Mo) x i).1)), (3, .int (nI i))] [] (CA K Mo dr dl ou ol da eq al ((rpS K da al o s (K + Mo) x i).2.1) ((rpS K da al o s (K + Mo) x i).2.2.1) ln ((rpS K da al o s (K + Mo) x i).2.2.2) X) 0 0 (.inl (some (.int (nI (rpS K da al o s (K + Mo) x (K + Mo)).1)), (CA K Mo dr dl ou ol da eq al ((rpS K da al o s (K + Mo) x (K + Mo)).2.1) ((rpS K da al o s (K + Mo) x (K + Mo)).2.2.1) ln ((rpS K da al o s (K + Mo) x (K + Mo)).2.2.2) X)))
  | 0, i, hi => by
    refine J.iload_n d_V_repairStripe_30 rfl rfl ?_
    refine J.aload_n d_V_repairStripe_31 rfl rfl ?_
    refine J.getfield d_V_repairStripe_32 fl_V_18 rfl rfl ?_
    refine J.getfield d_V_repairStripe_35 fl_V_142 rfl rfl ?_
    refine J.icmp_geN d_V_repairStripe_38 (tgt := 72) (by decide) (by omega) (by omega) (fun h => ?_) (fun h => ?_)
    · rw [show i = K + Mo by omega]
      refine J.iload_n d_V_repairStripe_72 rfl rfl ?_
      exact J.ireturn d_V_repairStripe_73 rfl (by decide) (by decide)
    · omega
  | j + 1, i, hi => by
    have hS : K + Mo ≤ 7 := by omega
    have hh : i < K + Mo := by omega
    have hix := ix56 hS hs hh
    have ih := lp_V_rep hx hK hK4 hM ho hs ha hda j (i + 1) (by omega)
    have hok := (rpS_ok (K := K) (al := al) (o := o) (s := s) (Sh := K + Mo) hx hda i).1
    have hc := con_G_placeOf (l := l) (K := K) (Mo := Mo) (dl := dl) (ol := ol) (dr := dr) (ou := ou) (da := da) (eq := eq) (al := al) (fr := frOf (rpS K da al o s (K + Mo) x i).2.1) (tk := tkOf (rpS K da al o s (K + Mo) x i).2.1) (by_ := byOf (rpS K da al o s (K + Mo) x i).2.2.1) (ln := ln) (pl := plOf (K + Mo) (rpS K da al o s (K + Mo) x i).2.2.2) (X := X) (r := o * 56 + s * (K + Mo)) (h := i) (by omega)
    rw [pl_at _ hS hs hh] at hc
    have ht : tr ((rpS K da al o s (K + Mo) x i).2.2.2 (56 * o + 7 * s + i)) < 2 ^ 30 := by have := pl_lt (Sh := K + Mo) hok.2.2 (o * 56 + s * (K + Mo) + i); rwa [pl_at _ hS hs hh] at this
    have no : ¬ ((rpS K da al o s (K + Mo) x i).2.2.2 (56 * o + 7 * s + i) = 0 ∧ gp al (rpS K da al o s (K + Mo) x i).2.1 (rpS K da al o s (K + Mo) x i).2.2.2 o s (K + Mo) ≠ 0) → rpS K da al o s (K + Mo) x (i + 1) = rpS K da al o s (K + Mo) x i := fun hn => by
      show (if _ then _ else _) = _
      rw [if_neg hn]
    refine J.iload_n d_V_repairStripe_30 rfl rfl ?_
    refine J.aload_n d_V_repairStripe_31 rfl rfl ?_
    refine J.getfield d_V_repairStripe_32 fl_V_18 rfl rfl ?_
    refine J.getfield d_V_repairStripe_35 fl_V_142 rfl rfl ?_
    refine J.icmp_geN d_V_repairStripe_38 (tgt := 72) (by decide) (by omega) (by omega) (fun h => ?_) (fun h => ?_)
    · omega
    refine J.aload_n d_V_repairStripe_41 rfl rfl ?_
    refine J.getfield d_V_repairStripe_42 fl_V_32 rfl rfl ?_
    refine J.iload_n d_V_repairStripe_45 rfl rfl ?_
    refine J.iload_n d_V_repairStripe_46 rfl rfl ?_
    refine J.v2i hc k_V_repairStripe_G_placeOf d_V_repairStripe_47 rfl rfl rfl ?_
    refine J.iconst d_V_repairStripe_50 (v := pI 0) (by decide) ?_
    refine J.icmp_neP d_V_repairStripe_51 (tgt := 66) (by decide) (by omega) (by omega) (fun q => ?_) (fun q => ?_)
    · rw [no (fun z => q (tr_eq0.mpr z.1))] at ih
      refine J.iincN d_V_repairStripe_66 rfl rfl (by decide) rfl ?_
      refine J.goto d_V_repairStripe_69 (tgt := 30) (by decide) ?_
      exact ih
    refine J.aload_n d_V_repairStripe_54 rfl rfl ?_
    refine J.iload_n d_V_repairStripe_55 rfl rfl ?_
    refine J.iload_n d_V_repairStripe_56 rfl rfl ?_
    by_cases hg : gp al (rpS K da al o s (K + Mo) x i).2.1 (rpS K da al o s (K + Mo) x i).2.2.2 o s (K + Mo) = 0
    · rw [no (fun z => z.2 hg)] at ih
      refine J.v2i (con_V_placeShard0 hS ho hs hok.2.2 hok.1 ha hg) k_V_repairStripe_V_placeShard d_V_repairStripe_57 rfl rfl rfl ?_
      refine J.if_eqN d_V_repairStripe_60 (tgt := 66) (by decide) (by omega) (fun h3 => ?_) (fun h3 => ?_)
      · refine J.iincN d_V_repairStripe_66 rfl rfl (by decide) rfl ?_
        refine J.goto d_V_repairStripe_69 (tgt := 30) (by decide) ?_
        exact ih
      · exact absurd rfl h3
    · have e : rpS K da al o s (K + Mo) x (i + 1) = ((rpS K da al o s (K + Mo) x i).1 + 1, layU K da al o s (K + Mo) i (rpS K da al o s (K + Mo) x i).2) := by
        show (if _ then _ else _) = _
        rw [if_pos ⟨tr_eq0.mp q, hg⟩]
      rw [e] at ih
      refine J.v2i (con_V_placeShard hK hK4 hM ho hs hh hda hok.2.2 hok.1 ha hg) k_V_repairStripe_V_placeShard d_V_repairStripe_57 rfl rfl rfl ?_
      refine J.if_eqN d_V_repairStripe_60 (tgt := 66) (by decide) (by omega) (fun h3 => ?_) (fun h3 => ?_)
      · exact absurd h3 (by decide)
      · refine J.iincN d_V_repairStripe_63 rfl rfl (by decide) rfl ?_
        refine J.iincN d_V_repairStripe_66 rfl rfl (by decide) rfl ?_
        refine J.goto d_V_repairStripe_69 (tgt := 30) (by decide) ?_
        exact ih
theorem con_V_repairStripe0 {o s : Nat} (hK : 0 < K) (hS : K + Mo ≤ 7) (ho : o < 6) (hs : s < 8) (hp : ∀ i, pl i ≤ 80) (hn : Mo < nl pl o s (K + Mo) ∨ nl pl o s (K + Mo) = 0) : Con l i_V_repairStripe [.ref 0, .int (nI (o * 56 + s * (K + Mo)))] (CA K Mo dr dl ou ol da eq al us by_ ln pl X) (.inl (some (.int (nI 0)), (CA K Mo dr dl ou ol da eq al us by_ ln pl X))) := by
  have hr : o * 56 + s * (K + Mo) + (K + Mo) ≤ 336 := by
    have h1 : (s + 1) * (K + Mo) ≤ 8 * 7 := Nat.mul_le_mul (by omega) hS
    rw [Nat.succ_mul] at h1; omega
  have hc := con_G_countLost (l := l) (K := K) (Mo := Mo) (dl := dl) (ol := ol) (dr := dr) (ou := ou) (da := da) (eq := eq) (al := al) (fr := frOf us) (tk := tkOf us) (by_ := byOf by_) (ln := ln) (X := X) hS hr (pl_lt (Sh := K + Mo) hp)
  rw [nl_cls hS hs] at hc
  have hgo := con_V_isGone (l := l) (dl := dl) (ol := ol) (dr := dr) (ou := ou) (da := da) (eq := eq) (al := al) (us := us) (by_ := by_) (ln := ln) (X := X) hS ho hs hp
  refine Con.of ?_
  refine J.aload_n d_V_repairStripe_0 rfl rfl ?_
  refine J.iload_n d_V_repairStripe_1 rfl rfl ?_
  refine J.v1i hgo k_V_repairStripe_V_isGone d_V_repairStripe_2 rfl rfl rfl ?_
  have hif : (if Mo < nl pl o s (K + Mo) then 1 else 0) < 2 := by split <;> decide
  refine J.if_neN d_V_repairStripe_5 (tgt := 19) (by decide) (by omega) (fun h => ?_) (fun h => ?_)
  · refine J.iconst d_V_repairStripe_19 (v := nI 0) (by decide) ?_
    exact J.ireturn d_V_repairStripe_20 rfl (by decide) (by decide)
  · have h0 : nl pl o s (K + Mo) = 0 := by
      rcases hn with hn | hn
      · rw [if_pos hn] at h; exact absurd h (by decide)
      · exact hn
    rw [h0] at hc
    refine J.aload_n d_V_repairStripe_8 rfl rfl ?_
    refine J.getfield d_V_repairStripe_9 fl_V_32 rfl rfl ?_
    refine J.iload_n d_V_repairStripe_12 rfl rfl ?_
    refine J.v1i hc k_V_repairStripe_G_countLost d_V_repairStripe_13 rfl rfl rfl ?_
    refine J.if_neN d_V_repairStripe_16 (tgt := 21) (by decide) (by omega) (fun h2 => ?_) (fun h2 => ?_)
    · exact absurd rfl h2
    · refine J.iconst d_V_repairStripe_19 (v := nI 0) (by decide) ?_
      exact J.ireturn d_V_repairStripe_20 rfl (by decide) (by decide)
theorem con_V_repairStripe {o s : Nat} (hK : 0 < K) (hK4 : K ≤ 4) (hM : Mo ≤ 3) (ho : o < 6) (hs : s < 8) (hx : okU (us, by_, pl)) (ha : ∀ i, al i < 2) (hok : selOk (lsB pl o s) K (K + Mo)) (he : ∀ i, eq i < 256) (hda : ∀ i, da i < 256) (h1 : nl pl o s (K + Mo) ≤ Mo) (h2 : nl pl o s (K + Mo) ≠ 0) :
    Con l i_V_repairStripe [.ref 0, .int (nI (o * 56 + s * (K + Mo)))] (CA K Mo dr dl ou ol da eq al us by_ ln pl X) (.inl (some (.int (nI (rpS K (rdC K (K + Mo) (lsB pl o s) (vb pl by_ o s) eq da).2 al o s (K + Mo) (us, by_, pl) (K + Mo)).1)), (CA K Mo dr dl ou ol ((rdC K (K + Mo) (lsB pl o s) (vb pl by_ o s) eq da).2) ((rdC K (K + Mo) (lsB pl o s) (vb pl by_ o s) eq da).1) al ((rpS K (rdC K (K + Mo) (lsB pl o s) (vb pl by_ o s) eq da).2 al o s (K + Mo) (us, by_, pl) (K + Mo)).2.1) ((rpS K (rdC K (K + Mo) (lsB pl o s) (vb pl by_ o s) eq da).2 al o s (K + Mo) (us, by_, pl) (K + Mo)).2.2.1) ln ((rpS K (rdC K (K + Mo) (lsB pl o s) (vb pl by_ o s) eq da).2 al o s (K + Mo) (us, by_, pl) (K + Mo)).2.2.2) X))) := by
  have hS : K + Mo ≤ 7 := by omega
  have hp : ∀ i, pl i ≤ 80 := hx.2.2
  have hby : ∀ i, by_ i < 256 := hx.2.1
  have hr : o * 56 + s * (K + Mo) + (K + Mo) ≤ 336 := by
    have h1 : (s + 1) * (K + Mo) ≤ 8 * 7 := Nat.mul_le_mul (by omega) hS
    rw [Nat.succ_mul] at h1; omega
  have hc := con_G_countLost (l := l) (K := K) (Mo := Mo) (dl := dl) (ol := ol) (dr := dr) (ou := ou) (da := da) (eq := eq) (al := al) (fr := frOf us) (tk := tkOf us) (by_ := byOf by_) (ln := ln) (X := X) hS hr (pl_lt (Sh := K + Mo) hp)
  rw [nl_cls hS hs] at hc
  have hgo := con_V_isGone (l := l) (dl := dl) (ol := ol) (dr := dr) (ou := ou) (da := da) (eq := eq) (al := al) (us := us) (by_ := by_) (ln := ln) (X := X) hS ho hs hp
  rw [if_neg (by omega)] at hgo
  refine Con.of ?_
  refine J.aload_n d_V_repairStripe_0 rfl rfl ?_
  refine J.iload_n d_V_repairStripe_1 rfl rfl ?_
  refine J.v1i hgo k_V_repairStripe_V_isGone d_V_repairStripe_2 rfl rfl rfl ?_
  refine J.if_neN d_V_repairStripe_5 (tgt := 19) (by decide) (by omega) (fun h => ?_) (fun h => ?_)
  · exact absurd rfl h
  refine J.aload_n d_V_repairStripe_8 rfl rfl ?_
  refine J.getfield d_V_repairStripe_9 fl_V_32 rfl rfl ?_
  refine J.iload_n d_V_repairStripe_12 rfl rfl ?_
  refine J.v1i hc k_V_repairStripe_G_countLost d_V_repairStripe_13 rfl rfl rfl ?_
  refine J.if_neN d_V_repairStripe_16 (tgt := 21) (by decide) (by omega) (fun h3 => ?_) (fun h3 => ?_)
  · refine J.aload_n d_V_repairStripe_21 rfl rfl ?_
    refine J.iload_n d_V_repairStripe_22 rfl rfl ?_
    refine J.v1v (con_V_readStripe hK hK4 hM ho hs hp hok he hda hby) k_V_repairStripe_V_readStripe d_V_repairStripe_23 rfl rfl rfl ?_
    refine J.iconst d_V_repairStripe_26 (v := nI 0) (by decide) ?_
    refine J.istore_n d_V_repairStripe_27 rfl (by decide) rfl ?_
    refine J.iconst d_V_repairStripe_28 (v := nI 0) (by decide) ?_
    refine J.istore_n d_V_repairStripe_29 rfl (by decide) rfl ?_
    exact lp_V_rep hx hK hK4 hM ho hs ha (rdC_b he hda (fun _ _ => hby _)).2 (K + Mo) 0 (by omega)
  · exact absurd h3 h2
end WORK
end
section
/-! A whole object: the class's side -/
section OBJ
variable {l : Launch} {K Mo dl ol : Nat} {dr ou da eq al us by_ ln pl : Nat → Nat} {X : List va_E}
theorem ns_le {K n : Nat} (hK : 0 < K) (hn : n ≤ 32) : ns K n ≤ 8 := by
  unfold ns
  have : (n + 4 * K - 1) / (4 * K) < 9 := Nat.div_lt_of_lt_mul (by omega)
  omega
/-- a stripe's shards ahead of n laid one by one: 0 once one finds no disk -/
def pdH (K : Nat) (da al : Nat → Nat) (o s Sh : Nat) (x : U3) : Nat → Nat × U3
  | 0 => (1, x)
  | h + 1 => if (pdH K da al o s Sh x h).1 = 0 then pdH K da al o s Sh x h else if gp al (pdH K da al o s Sh x h).2.1 (pdH K da al o s Sh x h).2.2.2 o s Sh = 0 then (0, (pdH K da al o s Sh x h).2) else (1, layU K da al o s Sh h (pdH K da al o s Sh x h).2)
theorem pdH_ok {K : Nat} {da al : Nat → Nat} {o s Sh : Nat} {x : U3} (hx : okU x) (hda : ∀ i, da i < 256) : ∀ n, okU (pdH K da al o s Sh x n).2
  | 0 => hx
  | n + 1 => by
    have ih := pdH_ok (K := K) (al := al) (o := o) (s := s) (Sh := Sh) hx hda n
    unfold pdH; split
    · exact ih
    · split
      · exact ih
      · exact layU_ok ih hda
theorem pdH_stop {K : Nat} {da al : Nat → Nat} {o s Sh : Nat} {x : U3} {n : Nat} (h : (pdH K da al o s Sh x n).1 = 0) : ∀ j, pdH K da al o s Sh x (n + j) = pdH K da al o s Sh x n
  | 0 => rfl
  | j + 1 => by
    have ih := pdH_stop h j
    show (if (pdH K da al o s Sh x (n + j)).1 = 0 then pdH K da al o s Sh x (n + j) else _) = _
    rw [ih, if_pos h]
theorem td_lt {K : Nat} {dr : Nat → Nat} {dl s : Nat} {da : Nat → Nat} {n : Nat} (hr : ∀ i, dr i < 256) (hd : ∀ i, da i < 256) (i : Nat) : td K dr dl s da n i < 256 := by
  unfold td; split
  · split
    · exact hr _
    · decide
  · exact hd i
/-- the stripes ahead of n: 0 once a shard finds no disk, the data at hand, what is there -/
def pdS (K : Nat) (dr : Nat → Nat) (dl : Nat) (al : Nat → Nat) (o Sh : Nat) (da : Nat → Nat) (x : U3) : Nat → Nat × (Nat → Nat) × U3
  | 0 => (1, da, x)
  | s + 1 => if (pdS K dr dl al o Sh da x s).1 = 0 then pdS K dr dl al o Sh da x s else ((pdH K (td K dr dl s (pdS K dr dl al o Sh da x s).2.1 (4 * K)) al o s Sh (pdS K dr dl al o Sh da x s).2.2 Sh).1, td K dr dl s (pdS K dr dl al o Sh da x s).2.1 (4 * K), (pdH K (td K dr dl s (pdS K dr dl al o Sh da x s).2.1 (4 * K)) al o s Sh (pdS K dr dl al o Sh da x s).2.2 Sh).2)
theorem pdS_ok {K : Nat} {dr : Nat → Nat} {dl : Nat} {al : Nat → Nat} {o Sh : Nat} {da : Nat → Nat} {x : U3} (hx : okU x) (hr : ∀ i, dr i < 256) (hda : ∀ i, da i < 256) : ∀ n, okU (pdS K dr dl al o Sh da x n).2.2 ∧ ∀ i, (pdS K dr dl al o Sh da x n).2.1 i < 256
  | 0 => ⟨hx, hda⟩
  | n + 1 => by
    have ih := pdS_ok (K := K) (dl := dl) (al := al) (o := o) (Sh := Sh) hx hr hda n
    unfold pdS; split
    · exact ih
    · exact ⟨pdH_ok ih.1 (td_lt hr ih.2) Sh, td_lt hr ih.2⟩
theorem pdS_stop {K : Nat} {dr : Nat → Nat} {dl : Nat} {al : Nat → Nat} {o Sh : Nat} {da : Nat → Nat} {x : U3} {n : Nat} (h : (pdS K dr dl al o Sh da x n).1 = 0) : ∀ j, pdS K dr dl al o Sh da x (n + j) = pdS K dr dl al o Sh da x n
  | 0 => rfl
  | j + 1 => by
    have ih := pdS_stop h j
    show (if (pdS K dr dl al o Sh da x (n + j)).1 = 0 then pdS K dr dl al o Sh da x (n + j) else _) = _
    rw [ih, if_pos h]
theorem lp_V_pdH {o s : Nat} {x : U3} (hx : okU x) (hK : 0 < K) (hK4 : K ≤ 4) (hM : Mo ≤ 3) (ho : o < 6) (hs : s < 8) (ha : ∀ i, al i < 2) (hda : ∀ i, da i < 256) {out : Out}
    (h1 : (pdH K da al o s (K + Mo) x (K + Mo)).1 ≠ 0 → J l i_V_placeDraft 62 [(0, .ref 0), (1, .int (nI o)), (2, .int (nI s))] [] (CA K Mo dr dl ou ol da eq al ((pdH K da al o s (K + Mo) x (K + Mo)).2.1) ((pdH K da al o s (K + Mo) x (K + Mo)).2.2.1) ln ((pdH K da al o s (K + Mo) x (K + Mo)).2.2.2) X) 0 0 out)
    (h0 : (pdH K da al o s (K + Mo) x (K + Mo)).1 = 0 → out = .inl (some (.int (nI 0)), (CA K Mo dr dl ou ol da eq al ((pdH K da al o s (K + Mo) x (K + Mo)).2.1) ((pdH K da al o s (K + Mo) x (K + Mo)).2.2.1) ln ((pdH K da al o s (K + Mo) x (K + Mo)).2.2.2) X))) : ∀ (j i : Nat), i + j = K + Mo → (pdH K da al o s (K + Mo) x i).1 ≠ 0 →
    J l i_V_placeDraft 32 [(0, .ref 0), (1, .int (nI o)), (2, .int (nI s)), (3, .int (nI (o * 56 + s * (K + Mo)))), (4, .int (nI i))] [] (CA K Mo dr dl ou ol da eq al ((pdH K da al o s (K + Mo) x i).2.1) ((pdH K da al o s (K + Mo) x i).2.2.1) ln ((pdH K da al o s (K + Mo) x i).2.2.2) X) 0 0 out
  | 0, i, hi, hg => by
    have hi' : i = K + Mo := by omega
    rw [hi'] at hg ⊢
    refine J.iload d_V_placeDraft_32 rfl ?_
    refine J.aload_n d_V_placeDraft_34 rfl rfl ?_
    refine J.getfield d_V_placeDraft_35 fl_V_18 rfl rfl ?_
    refine J.getfield d_V_placeDraft_38 fl_V_142 rfl rfl ?_
    refine J.icmp_geN d_V_placeDraft_41 (tgt := 62) (by decide) (by omega) (by omega) (fun h => ?_) (fun h => ?_)
    · exact J.sub [0, 1, 2] (h1 hg)
    · omega
  | j + 1, i, hi, hg => by
    have hS : K + Mo ≤ 7 := by omega
    have hh : i < K + Mo := by omega
    have hok := pdH_ok (K := K) (al := al) (o := o) (s := s) (Sh := K + Mo) hx hda i
    have ih := lp_V_pdH hx hK hK4 hM ho hs ha hda h1 h0 j (i + 1) (by omega)
    refine J.iload d_V_placeDraft_32 rfl ?_
    refine J.aload_n d_V_placeDraft_34 rfl rfl ?_
    refine J.getfield d_V_placeDraft_35 fl_V_18 rfl rfl ?_
    refine J.getfield d_V_placeDraft_38 fl_V_142 rfl rfl ?_
    refine J.icmp_geN d_V_placeDraft_41 (tgt := 62) (by decide) (by omega) (by omega) (fun h => ?_) (fun h => ?_)
    · omega
    refine J.aload_n d_V_placeDraft_44 rfl rfl ?_
    refine J.iload_n d_V_placeDraft_45 rfl rfl ?_
    refine J.iload d_V_placeDraft_46 rfl ?_
    by_cases hgp : gp al (pdH K da al o s (K + Mo) x i).2.1 (pdH K da al o s (K + Mo) x i).2.2.2 o s (K + Mo) = 0
    · have e : pdH K da al o s (K + Mo) x (i + 1) = (0, (pdH K da al o s (K + Mo) x i).2) := by
        show (if _ then _ else _) = _
        rw [if_neg hg, if_pos hgp]
      have e2 := pdH_stop (by rw [e] : (pdH K da al o s (K + Mo) x (i + 1)).1 = 0) j
      rw [show i + 1 + j = K + Mo by omega, e] at e2
      have h0' := h0 (by rw [e2])
      rw [e2] at h0'
      rw [h0']
      refine J.v2i (con_V_placeShard0 hS ho hs hok.2.2 hok.1 ha hgp) k_V_placeDraft_V_placeShard d_V_placeDraft_48 rfl rfl rfl ?_
      refine J.if_neN d_V_placeDraft_51 (tgt := 56) (by decide) (by omega) (fun h3 => ?_) (fun h3 => ?_)
      · exact absurd rfl h3
      · refine J.iconst d_V_placeDraft_54 (v := nI 0) (by decide) ?_
        first | exact J.zreturn d_V_placeDraft_55 rfl rfl (by decide) (by decide) | exact J.zreturnN d_V_placeDraft_55 rfl (by omega) (by decide) (by decide)
    · have e : pdH K da al o s (K + Mo) x (i + 1) = (1, layU K da al o s (K + Mo) i (pdH K da al o s (K + Mo) x i).2) := by
        show (if _ then _ else _) = _
        rw [if_neg hg, if_neg hgp]
      rw [e] at ih
      refine J.v2i (con_V_placeShard hK hK4 hM ho hs hh hda hok.2.2 hok.1 ha hgp) k_V_placeDraft_V_placeShard d_V_placeDraft_48 rfl rfl rfl ?_
      refine J.if_neN d_V_placeDraft_51 (tgt := 56) (by decide) (by omega) (fun h3 => ?_) (fun h3 => ?_)
      · refine J.iincN d_V_placeDraft_56 rfl rfl (by decide) rfl ?_
        refine J.goto d_V_placeDraft_59 (tgt := 32) (by decide) ?_
        exact ih (Nat.succ_ne_zero 0)
      · exact absurd h3 (by decide)
theorem lp_V_pdS {o : Nat} {x : U3} (hx : okU x) (hK : 0 < K) (hK4 : K ≤ 4) (hM : Mo ≤ 3) (ho : o < 6) (ha : ∀ i, al i < 2) (hda : ∀ i, da i < 256) (hr : ∀ i, dr i < 256) (hdl : dl ≤ 32) (hln : ln o ≤ 32) : ∀ (j i : Nat), i + j = ns K (ln o) → (pdS K dr dl al o (K + Mo) da x i).1 ≠ 0 →
    J l i_V_placeDraft 2 [(0, .ref 0), (1, .int (nI o)), (2, .int (nI i))] [] (CA K Mo dr dl ou ol ((pdS K dr dl al o (K + Mo) da x i).2.1) eq al ((pdS K dr dl al o (K + Mo) da x i).2.2.1) ((pdS K dr dl al o (K + Mo) da x i).2.2.2.1) ln ((pdS K dr dl al o (K + Mo) da x i).2.2.2.2) X) 0 0
      (.inl (some (.int (nI (if (pdS K dr dl al o (K + Mo) da x (ns K (ln o))).1 = 0 then 0 else 1))), (CA K Mo dr dl ou ol ((pdS K dr dl al o (K + Mo) da x (ns K (ln o))).2.1) eq al ((pdS K dr dl al o (K + Mo) da x (ns K (ln o))).2.2.1) ((pdS K dr dl al o (K + Mo) da x (ns K (ln o))).2.2.2.1) ln ((pdS K dr dl al o (K + Mo) da x (ns K (ln o))).2.2.2.2) X)))
  | 0, i, hi, hg => by
    have hn8 := ns_le hK hln
    have hi' : i = ns K (ln o) := by omega
    rw [hi'] at hg ⊢
    refine J.iload_n d_V_placeDraft_2 rfl rfl ?_
    refine J.aload_n d_V_placeDraft_3 rfl rfl ?_
    refine J.getfield d_V_placeDraft_4 fl_V_32 rfl rfl ?_
    refine J.iload_n d_V_placeDraft_7 rfl rfl ?_
    refine J.v1i (con_G_stripesOf ho hK hK4 (by omega)) k_V_placeDraft_G_stripesOf d_V_placeDraft_8 rfl rfl rfl ?_
    refine J.icmp_geN d_V_placeDraft_11 (tgt := 68) (by decide) (by omega) (by omega) (fun h => ?_) (fun h => ?_)
    · rw [if_neg hg]
      refine J.iconst d_V_placeDraft_68 (v := nI 1) (by decide) ?_
      first | exact J.zreturn d_V_placeDraft_69 rfl rfl (by decide) (by decide) | exact J.zreturnN d_V_placeDraft_69 rfl (by omega) (by decide) (by decide)
    · omega
  | j + 1, i, hi, hg => by
    have hn8 := ns_le hK hln
    have hok := pdS_ok (K := K) (dl := dl) (al := al) (o := o) (Sh := K + Mo) hx hr hda i
    have hs8 : i < 8 := by omega
    have hdai := td_lt (K := K) (dl := dl) (s := i) (n := 4 * K) hr hok.2
    have ih := lp_V_pdS hx hK hK4 hM ho ha hda hr hdl hln j (i + 1) (by omega)
    have e : pdS K dr dl al o (K + Mo) da x (i + 1) = ((pdH K (td K dr dl i (pdS K dr dl al o (K + Mo) da x i).2.1 (4 * K)) al o i (K + Mo) (pdS K dr dl al o (K + Mo) da x i).2.2 (K + Mo)).1, td K dr dl i (pdS K dr dl al o (K + Mo) da x i).2.1 (4 * K), (pdH K (td K dr dl i (pdS K dr dl al o (K + Mo) da x i).2.1 (4 * K)) al o i (K + Mo) (pdS K dr dl al o (K + Mo) da x i).2.2 (K + Mo)).2) := by
      show (if _ then _ else _) = _
      rw [if_neg hg]
    refine J.iload_n d_V_placeDraft_2 rfl rfl ?_
    refine J.aload_n d_V_placeDraft_3 rfl rfl ?_
    refine J.getfield d_V_placeDraft_4 fl_V_32 rfl rfl ?_
    refine J.iload_n d_V_placeDraft_7 rfl rfl ?_
    refine J.v1i (con_G_stripesOf ho hK hK4 (by omega)) k_V_placeDraft_G_stripesOf d_V_placeDraft_8 rfl rfl rfl ?_
    refine J.icmp_geN d_V_placeDraft_11 (tgt := 68) (by decide) (by omega) (by omega) (fun h => ?_) (fun h => ?_)
    · omega
    refine J.aload_n d_V_placeDraft_14 rfl rfl ?_
    refine J.iload_n d_V_placeDraft_15 rfl rfl ?_
    refine J.v1v (con_V_takeDataFromDraft hK4 hdl hs8) k_V_placeDraft_V_takeDataFromDraft d_V_placeDraft_16 rfl rfl rfl ?_
    refine J.aload_n d_V_placeDraft_19 rfl rfl ?_
    refine J.getfield d_V_placeDraft_20 fl_V_32 rfl rfl ?_
    refine J.iload_n d_V_placeDraft_23 rfl rfl ?_
    refine J.iload_n d_V_placeDraft_24 rfl rfl ?_
    refine J.v2i con_G_rowOf k_V_placeDraft_G_rowOf d_V_placeDraft_25 rfl rfl rfl ?_
    refine J.istore_n d_V_placeDraft_28 rfl (by decide) rfl ?_
    refine J.iconst d_V_placeDraft_29 (v := nI 0) (by decide) ?_
    refine J.istore d_V_placeDraft_30 (by decide) rfl ?_
    refine lp_V_pdH (x := (pdS K dr dl al o (K + Mo) da x i).2.2) hok.1 hK hK4 hM ho hs8 ha hdai ?_ ?_ (K + Mo) 0 (by omega) (Nat.succ_ne_zero 0)
    · intro hne
      rw [e] at ih
      refine J.iincN d_V_placeDraft_62 rfl rfl (by decide) rfl ?_
      refine J.goto d_V_placeDraft_65 (tgt := 2) (by decide) ?_
      exact ih hne
    · intro he
      have e2 := pdS_stop (by rw [e]; exact he : (pdS K dr dl al o (K + Mo) da x (i + 1)).1 = 0) j
      rw [show i + 1 + j = ns K (ln o) by omega] at e2
      rw [e2, e, if_pos he]
theorem con_V_placeDraft {o : Nat} (hx : okU (us, by_, pl)) (hK : 0 < K) (hK4 : K ≤ 4) (hM : Mo ≤ 3) (ho : o < 6) (ha : ∀ i, al i < 2) (hda : ∀ i, da i < 256) (hr : ∀ i, dr i < 256) (hdl : dl ≤ 32) (hln : ln o ≤ 32) : Con l i_V_placeDraft [.ref 0, .int (nI o)] (CA K Mo dr dl ou ol da eq al us by_ ln pl X)
      (.inl (some (.int (nI (if (pdS K dr dl al o (K + Mo) da (us, by_, pl) (ns K (ln o))).1 = 0 then 0 else 1))), (CA K Mo dr dl ou ol ((pdS K dr dl al o (K + Mo) da (us, by_, pl) (ns K (ln o))).2.1) eq al ((pdS K dr dl al o (K + Mo) da (us, by_, pl) (ns K (ln o))).2.2.1) ((pdS K dr dl al o (K + Mo) da (us, by_, pl) (ns K (ln o))).2.2.2.1) ln ((pdS K dr dl al o (K + Mo) da (us, by_, pl) (ns K (ln o))).2.2.2.2) X))) := by
  refine Con.of ?_
  refine J.iconst d_V_placeDraft_0 (v := nI 0) (by decide) ?_
  refine J.istore_n d_V_placeDraft_1 rfl (by decide) rfl ?_
  exact lp_V_pdS hx hK hK4 hM ho ha hda hr hdl hln (ns K (ln o)) 0 (by omega) (Nat.succ_ne_zero 0)
/-- slots, places and how many went -/
abbrev U2 : Type := Nat × (Nat → Nat) × (Nat → Nat)
/-- a place's slot is used, and no other place's -/
def inj (us pl : Nat → Nat) : Prop := (∀ i, pl i ≠ 0 → us (pl i - 1) = 1) ∧ ∀ i j, pl i ≠ 0 → pl i = pl j → i = j
def rl1 (q : Nat) (x : U2) : U2 := if x.2.2 q = 0 then x else (x.1 + 1, up x.2.1 (x.2.2 q - 1) 0, up x.2.2 q 0)
theorem rl1_inj {q : Nat} {x : U2} (h : inj x.2.1 x.2.2) : inj (rl1 q x).2.1 (rl1 q x).2.2 := by
  unfold rl1; split
  · exact h
  · rename_i h0
    refine ⟨fun i hi => ?_, fun i j hi hij => ?_⟩
    · show up x.2.1 (x.2.2 q - 1) 0 (up x.2.2 q 0 i - 1) = 1
      have hi' : up x.2.2 q 0 i ≠ 0 := hi
      by_cases hq : i = q
      · subst hq; rw [up_self] at hi'; exact absurd rfl hi'
      · rw [up_ne _ _ hq] at hi' ⊢
        rw [up_ne]
        · exact h.1 i hi'
        · intro e
          exact hq (h.2 i q hi' (by omega))
    · have hi' : up x.2.2 q 0 i ≠ 0 := hi
      have hij' : up x.2.2 q 0 i = up x.2.2 q 0 j := hij
      have hq : i ≠ q := fun e => by subst e; rw [up_self] at hi'; exact hi' rfl
      have hj : j ≠ q := fun e => by subst e; rw [up_self] at hij'; exact hi' hij'
      rw [up_ne _ _ hq] at hi' hij'
      rw [up_ne _ _ hj] at hij'
      exact h.2 i j hi' hij'
theorem rl1_b {q : Nat} {x : U2} (h : (∀ i, x.2.1 i < 2) ∧ ∀ i, x.2.2 i ≤ 80) : (∀ i, (rl1 q x).2.1 i < 2) ∧ ∀ i, (rl1 q x).2.2 i ≤ 80 := by
  unfold rl1; split
  · exact h
  · refine ⟨up_lt h.1 (by decide), fun i => ?_⟩
    have := up_lt (f := x.2.2) (i := q) (v := 0) (m := 81) (fun i => by have := h.2 i; omega) (by decide) i
    show up x.2.2 q 0 i ≤ 80
    omega
/-- a stripe's shards ahead of n given back -/
def rlH (o s : Nat) (x : U2) : Nat → U2
  | 0 => x
  | h + 1 => rl1 (56 * o + 7 * s + h) (rlH o s x h)
def rlS (o Sh : Nat) (x : U2) : Nat → U2
  | 0 => x
  | s + 1 => rlH o s (rlS o Sh x s) Sh
def okR (x : U2) : Prop := inj x.2.1 x.2.2 ∧ (∀ i, x.2.1 i < 2) ∧ ∀ i, x.2.2 i ≤ 80
theorem rlH_ok {o s : Nat} {x : U2} (h : okR x) : ∀ n, okR (rlH o s x n)
  | 0 => h
  | n + 1 => ⟨rl1_inj (rlH_ok h n).1, rl1_b (rlH_ok h n).2⟩
theorem rlS_ok {o Sh : Nat} {x : U2} (h : okR x) : ∀ n, okR (rlS o Sh x n)
  | 0 => h
  | n + 1 => rlH_ok (rlS_ok h n) Sh
theorem rl1_le (q : Nat) (x : U2) : (rl1 q x).1 ≤ x.1 + 1 := by unfold rl1; split <;> simp
theorem rlH_le (o s : Nat) (x : U2) : ∀ n, (rlH o s x n).1 ≤ x.1 + n
  | 0 => Nat.le_refl _
  | n + 1 => by
    have h1 := rl1_le (56 * o + 7 * s + n) (rlH o s x n)
    have h2 := rlH_le o s x n
    show (rl1 _ _).1 ≤ _
    omega
theorem rlS_le (o Sh : Nat) (x : U2) : ∀ n, (rlS o Sh x n).1 ≤ x.1 + n * Sh
  | 0 => by simp [rlS]
  | n + 1 => by
    have h1 := rlH_le o n (rlS o Sh x n) Sh
    have h2 := rlS_le o Sh x n
    show (rlH _ _ _ _).1 ≤ _
    rw [Nat.succ_mul]; omega
theorem lp_V_rlH {o s : Nat} {x : U2} (hx : okR x) (hx1 : x.1 ≤ 1000) (hS : K + Mo ≤ 7) (ho : o < 6) (hs : s < 8) {out : Out}
    (kk : J l i_V_releaseObject 91 [(0, .ref 0), (1, .int (nI o)), (2, .int (nI (rlH o s x (K + Mo)).1)), (3, .int (nI s))] [] (CA K Mo dr dl ou ol da eq al ((rlH o s x (K + Mo)).2.1) by_ ln ((rlH o s x (K + Mo)).2.2) X) 0 0 out) : ∀ (j i : Nat), i + j = K + Mo →
    J l i_V_releaseObject 30 [(0, .ref 0), (1, .int (nI o)), (2, .int (nI (rlH o s x i).1)), (3, .int (nI s)), (4, .int (nI (o * 56 + s * (K + Mo)))), (5, .int (nI i))] [] (CA K Mo dr dl ou ol da eq al ((rlH o s x i).2.1) by_ ln ((rlH o s x i).2.2) X) 0 0 out
  | 0, i, hi => by
    have hi' : i = K + Mo := by omega
    rw [hi']
    refine J.iload d_V_releaseObject_30 rfl ?_
    refine J.aload_n d_V_releaseObject_32 rfl rfl ?_
    refine J.getfield d_V_releaseObject_33 fl_V_18 rfl rfl ?_
    refine J.getfield d_V_releaseObject_36 fl_V_142 rfl rfl ?_
    refine J.icmp_geN d_V_releaseObject_39 (tgt := 91) (by decide) (by omega) (by omega) (fun h => ?_) (fun h => ?_)
    · exact J.sub [0, 1, 2, 3] kk
    · omega
  | j + 1, i, hi => by
    have hh : i < K + Mo := by omega
    have hix := ix56 hS hs hh
    have hok := rlH_ok (o := o) (s := s) hx i
    have hle := rlH_le o s x i
    have ih := lp_V_rlH hx hx1 hS ho hs kk j (i + 1) (by omega)
    have e : rlH o s x (i + 1) = rl1 (56 * o + 7 * s + i) (rlH o s x i) := rfl
    rw [e] at ih
    generalize rlH o s x i = y at hok hle ih ⊢
    have hc := con_G_placeOf (l := l) (K := K) (Mo := Mo) (dl := dl) (ol := ol) (dr := dr) (ou := ou) (da := da) (eq := eq) (al := al) (fr := frOf y.2.1) (tk := tkOf y.2.1) (by_ := byOf by_) (ln := ln) (pl := plOf (K + Mo) y.2.2) (X := X) (r := o * 56 + s * (K + Mo)) (h := i) (by omega)
    rw [pl_at _ hS hs hh] at hc
    refine J.iload d_V_releaseObject_30 rfl ?_
    refine J.aload_n d_V_releaseObject_32 rfl rfl ?_
    refine J.getfield d_V_releaseObject_33 fl_V_18 rfl rfl ?_
    refine J.getfield d_V_releaseObject_36 fl_V_142 rfl rfl ?_
    refine J.icmp_geN d_V_releaseObject_39 (tgt := 91) (by decide) (by omega) (by omega) (fun h => ?_) (fun h => ?_)
    · omega
    refine J.aload_n d_V_releaseObject_42 rfl rfl ?_
    refine J.getfield d_V_releaseObject_43 fl_V_32 rfl rfl ?_
    refine J.iload d_V_releaseObject_46 rfl ?_
    refine J.iload d_V_releaseObject_48 rfl ?_
    rcases Nat.eq_zero_or_pos (y.2.2 (56 * o + 7 * s + i)) with h0 | h0
    · rw [h0, tr_0] at hc
      unfold rl1 at ih
      rw [if_pos h0] at ih
      refine J.v2i hc k_V_releaseObject_G_placeOf d_V_releaseObject_50 rfl rfl rfl ?_
      refine J.istore d_V_releaseObject_53 (by decide) rfl ?_
      refine J.iload d_V_releaseObject_55 rfl ?_
      refine J.iconst d_V_releaseObject_57 (v := pI 0) (by decide) ?_
      refine J.icmp_eqP d_V_releaseObject_58 (tgt := 85) (by decide) (by omega) (by omega) (fun _ => ?_) (fun q => absurd rfl q)
      refine J.iincN d_V_releaseObject_85 rfl rfl (by decide) rfl ?_
      refine J.goto d_V_releaseObject_88 (tgt := 30) (by decide) ?_
      exact J.sub [0, 1, 2, 3, 4, 5] ih
    · obtain ⟨p, ep⟩ : ∃ p, y.2.2 (56 * o + 7 * s + i) = p + 1 := ⟨y.2.2 (56 * o + 7 * s + i) - 1, by omega⟩
      have hp80 : p < 80 := by have := hok.2.2 (56 * o + 7 * s + i); omega
      have hu := hok.1.1 (56 * o + 7 * s + i) (by omega)
      rw [ep, tr_s, pI_succ] at hc
      unfold rl1 at ih
      rw [if_neg (by omega)] at ih
      rw [ep, Nat.add_sub_cancel] at hu ih
      have e10 : 10 * (p / 10) + p % 10 = p := by omega
      have hrs := con_D_releaseSlot (l := l) (K := K) (Mo := Mo) (dl := dl) (ol := ol) (dr := dr) (ou := ou) (da := da) (eq := eq) (al := al) (fr := frOf y.2.1) (tk := tkOf y.2.1) (by_ := byOf by_) (ln := ln) (pl := plOf (K + Mo) y.2.2) (X := X) (q := 16 * (p / 10) + p % 10) (by omega)
      rw [show (16 * (p / 10) + p % 10) / 16 = p / 10 by omega, tk_up _ (s := p % 10) (by omega), fr_give (d := p / 10) (s := p % 10) (by omega) (by omega) (by rw [e10]; exact hu) hok.2.1, e10] at hrs
      have hsp := con_G_setPlace (l := l) (K := K) (Mo := Mo) (dl := dl) (ol := ol) (dr := dr) (ou := ou) (da := da) (eq := eq) (al := al) (fr := frOf (up y.2.1 p 0)) (tk := tkOf (up y.2.1 p 0)) (by_ := byOf by_) (ln := ln) (pl := plOf (K + Mo) y.2.2) (X := X) (r := o * 56 + s * (K + Mo)) (h := i) (v := tr 0) (by omega)
      rw [pl_up _ hS hs hh, tr_0] at hsp
      refine J.v2i hc k_V_releaseObject_G_placeOf d_V_releaseObject_50 rfl rfl rfl ?_
      refine J.istore d_V_releaseObject_53 (by decide) rfl ?_
      refine J.iload d_V_releaseObject_55 rfl ?_
      refine J.iconst d_V_releaseObject_57 (v := pI 0) (by decide) ?_
      refine J.icmp_eqK d_V_releaseObject_58 (tgt := 85) (by decide) (by omega) ?_
      refine J.aload_n d_V_releaseObject_61 rfl rfl ?_
      refine J.getfield d_V_releaseObject_62 fl_V_25 rfl rfl ?_
      refine J.iload d_V_releaseObject_65 rfl ?_
      refine J.v1v hrs k_V_releaseObject_D_releaseSlot d_V_releaseObject_67 rfl rfl rfl ?_
      refine J.aload_n d_V_releaseObject_70 rfl rfl ?_
      refine J.getfield d_V_releaseObject_71 fl_V_32 rfl rfl ?_
      refine J.iload d_V_releaseObject_74 rfl ?_
      refine J.iload d_V_releaseObject_76 rfl ?_
      refine J.iconst d_V_releaseObject_78 (v := pI 0) (by decide) ?_
      refine J.v3v hsp k_V_releaseObject_G_setPlace d_V_releaseObject_79 rfl rfl rfl ?_
      refine J.iincN d_V_releaseObject_82 rfl rfl (by decide) rfl ?_
      refine J.iincN d_V_releaseObject_85 rfl rfl (by decide) rfl ?_
      refine J.goto d_V_releaseObject_88 (tgt := 30) (by decide) ?_
      exact J.sub [0, 1, 2, 3, 4, 5] ih
theorem lp_V_rlS {o : Nat} {x : U2} (hx : okR x) (hx1 : x.1 = 0) (hK : 0 < K) (hK4 : K ≤ 4) (hM : Mo ≤ 3) (ho : o < 6) (hln : ln o ≤ 32) : ∀ (j i : Nat), i + j = ns K (ln o) →
    J l i_V_releaseObject 4 [(0, .ref 0), (1, .int (nI o)), (2, .int (nI (rlS o (K + Mo) x i).1)), (3, .int (nI i))] [] (CA K Mo dr dl ou ol da eq al ((rlS o (K + Mo) x i).2.1) by_ ln ((rlS o (K + Mo) x i).2.2) X) 0 0 (.inl (some (.int (nI (rlS o (K + Mo) x (ns K (ln o))).1)), (CA K Mo dr dl ou ol da eq al ((rlS o (K + Mo) x (ns K (ln o))).2.1) by_ (up ln o 0) ((rlS o (K + Mo) x (ns K (ln o))).2.2) X)))
  | 0, i, hi => by
    have hn8 := ns_le hK hln
    have hi' : i = ns K (ln o) := by omega
    rw [hi']
    refine J.iload_n d_V_releaseObject_4 rfl rfl ?_
    refine J.aload_n d_V_releaseObject_5 rfl rfl ?_
    refine J.getfield d_V_releaseObject_6 fl_V_32 rfl rfl ?_
    refine J.iload_n d_V_releaseObject_9 rfl rfl ?_
    refine J.v1i (con_G_stripesOf ho hK hK4 (by omega)) k_V_releaseObject_G_stripesOf d_V_releaseObject_10 rfl rfl rfl ?_
    refine J.icmp_geN d_V_releaseObject_13 (tgt := 97) (by decide) (by omega) (by omega) (fun h => ?_) (fun h => ?_)
    · refine J.aload_n d_V_releaseObject_97 rfl rfl ?_
      refine J.getfield d_V_releaseObject_98 fl_V_32 rfl rfl ?_
      refine J.iload_n d_V_releaseObject_101 rfl rfl ?_
      refine J.v1v (con_G_strike ho) k_V_releaseObject_G_strike d_V_releaseObject_102 rfl rfl rfl ?_
      refine J.iload_n d_V_releaseObject_105 rfl rfl ?_
      exact J.ireturn d_V_releaseObject_106 rfl (by decide) (by decide)
    · omega
  | j + 1, i, hi => by
    have hn8 := ns_le hK hln
    have hS : K + Mo ≤ 7 := by omega
    have hs8 : i < 8 := by omega
    have hle := rlS_le o (K + Mo) x i
    have h56 : i * (K + Mo) ≤ 8 * 7 := Nat.mul_le_mul (by omega) hS
    have ih := lp_V_rlS hx hx1 hK hK4 hM ho hln j (i + 1) (by omega)
    have e : rlS o (K + Mo) x (i + 1) = rlH o i (rlS o (K + Mo) x i) (K + Mo) := rfl
    rw [e] at ih
    refine J.iload_n d_V_releaseObject_4 rfl rfl ?_
    refine J.aload_n d_V_releaseObject_5 rfl rfl ?_
    refine J.getfield d_V_releaseObject_6 fl_V_32 rfl rfl ?_
    refine J.iload_n d_V_releaseObject_9 rfl rfl ?_
    refine J.v1i (con_G_stripesOf ho hK hK4 (by omega)) k_V_releaseObject_G_stripesOf d_V_releaseObject_10 rfl rfl rfl ?_
    refine J.icmp_geN d_V_releaseObject_13 (tgt := 97) (by decide) (by omega) (by omega) (fun h => ?_) (fun h => ?_)
    · omega
    refine J.aload_n d_V_releaseObject_16 rfl rfl ?_
    refine J.getfield d_V_releaseObject_17 fl_V_32 rfl rfl ?_
    refine J.iload_n d_V_releaseObject_20 rfl rfl ?_
    refine J.iload_n d_V_releaseObject_21 rfl rfl ?_
    refine J.v2i con_G_rowOf k_V_releaseObject_G_rowOf d_V_releaseObject_22 rfl rfl rfl ?_
    refine J.istore d_V_releaseObject_25 (by decide) rfl ?_
    refine J.iconst d_V_releaseObject_27 (v := nI 0) (by decide) ?_
    refine J.istore d_V_releaseObject_28 (by decide) rfl ?_
    refine J.sub [0, 1, 2, 3, 4, 5] (lp_V_rlH (x := rlS o (K + Mo) x i) (rlS_ok hx i) (by omega) hS ho hs8 ?_ (K + Mo) 0 (by omega))
    refine J.iincN d_V_releaseObject_91 rfl rfl (by decide) rfl ?_
    refine J.goto d_V_releaseObject_94 (tgt := 4) (by decide) ?_
    exact ih
theorem con_V_releaseObject {o : Nat} (hx : okR (0, us, pl)) (hK : 0 < K) (hK4 : K ≤ 4) (hM : Mo ≤ 3) (ho : o < 6) (hln : ln o ≤ 32) : Con l i_V_releaseObject [.ref 0, .int (nI o)] (CA K Mo dr dl ou ol da eq al us by_ ln pl X) (.inl (some (.int (nI (rlS o (K + Mo) (0, us, pl) (ns K (ln o))).1)), (CA K Mo dr dl ou ol da eq al ((rlS o (K + Mo) (0, us, pl) (ns K (ln o))).2.1) by_ (up ln o 0) ((rlS o (K + Mo) (0, us, pl) (ns K (ln o))).2.2) X))) := by
  refine Con.of ?_
  refine J.iconst d_V_releaseObject_0 (v := nI 0) (by decide) ?_
  refine J.istore_n d_V_releaseObject_1 rfl (by decide) rfl ?_
  refine J.iconst d_V_releaseObject_2 (v := nI 0) (by decide) ?_
  refine J.istore_n d_V_releaseObject_3 rfl (by decide) rfl ?_
  exact lp_V_rlS hx rfl hK hK4 hM ho hln (ns K (ln o)) 0 (by omega)
/-- a stripe is gone -/
def gn (pl : Nat → Nat) (Mo o Sh : Nat) : Nat → Bool := fun s => decide (Mo < nl pl o s Sh)
theorem lp_V_hasGone {o : Nat} (hK : 0 < K) (hK4 : K ≤ 4) (hM : Mo ≤ 3) (ho : o < 6) (hp : ∀ i, pl i ≤ 80) (hln : ln o ≤ 32) : ∀ (j i : Nat), i + j = ns K (ln o) → anyB (gn pl Mo o (K + Mo)) i = false →
    J l i_V_hasGoneStripe 2 [(0, .ref 0), (1, .int (nI o)), (2, .int (nI i))] [] (CA K Mo dr dl ou ol da eq al us by_ ln pl X) 0 0 (.inl (some (.int (nI (b2n (anyB (gn pl Mo o (K + Mo)) (ns K (ln o)))))), (CA K Mo dr dl ou ol da eq al us by_ ln pl X)))
  | 0, i, hi, ha => by
    have hn8 := ns_le hK hln
    have hi' : i = ns K (ln o) := by omega
    rw [hi'] at ha ⊢
    refine J.iload_n d_V_hasGoneStripe_2 rfl rfl ?_
    refine J.aload_n d_V_hasGoneStripe_3 rfl rfl ?_
    refine J.getfield d_V_hasGoneStripe_4 fl_V_32 rfl rfl ?_
    refine J.iload_n d_V_hasGoneStripe_7 rfl rfl ?_
    refine J.v1i (con_G_stripesOf ho hK hK4 (by omega)) k_V_hasGoneStripe_G_stripesOf d_V_hasGoneStripe_8 rfl rfl rfl ?_
    refine J.icmp_geN d_V_hasGoneStripe_11 (tgt := 38) (by decide) (by omega) (by omega) (fun h => ?_) (fun h => ?_)
    · rw [ha]
      refine J.iconst d_V_hasGoneStripe_38 (v := nI 0) (by decide) ?_
      first | exact J.zreturn d_V_hasGoneStripe_39 rfl rfl (by decide) (by decide) | exact J.zreturnN d_V_hasGoneStripe_39 rfl (by omega) (by decide) (by decide)
    · omega
  | j + 1, i, hi, ha => by
    have hn8 := ns_le hK hln
    have hS : K + Mo ≤ 7 := by omega
    have hs8 : i < 8 := by omega
    refine J.iload_n d_V_hasGoneStripe_2 rfl rfl ?_
    refine J.aload_n d_V_hasGoneStripe_3 rfl rfl ?_
    refine J.getfield d_V_hasGoneStripe_4 fl_V_32 rfl rfl ?_
    refine J.iload_n d_V_hasGoneStripe_7 rfl rfl ?_
    refine J.v1i (con_G_stripesOf ho hK hK4 (by omega)) k_V_hasGoneStripe_G_stripesOf d_V_hasGoneStripe_8 rfl rfl rfl ?_
    refine J.icmp_geN d_V_hasGoneStripe_11 (tgt := 38) (by decide) (by omega) (by omega) (fun h => ?_) (fun h => ?_)
    · omega
    refine J.aload_n d_V_hasGoneStripe_14 rfl rfl ?_
    refine J.aload_n d_V_hasGoneStripe_15 rfl rfl ?_
    refine J.getfield d_V_hasGoneStripe_16 fl_V_32 rfl rfl ?_
    refine J.iload_n d_V_hasGoneStripe_19 rfl rfl ?_
    refine J.iload_n d_V_hasGoneStripe_20 rfl rfl ?_
    refine J.v2i con_G_rowOf k_V_hasGoneStripe_G_rowOf d_V_hasGoneStripe_21 rfl rfl rfl ?_
    refine J.v1i (con_V_isGone hS ho hs8 hp) k_V_hasGoneStripe_V_isGone d_V_hasGoneStripe_24 rfl rfl rfl ?_
    by_cases hg : Mo < nl pl o i (K + Mo)
    · rw [if_pos hg, anyB_true (p := gn pl Mo o (K + Mo)) (i := i) (by simpa [gn] using hg) (ns K (ln o)) (by omega)]
      refine J.if_eqN d_V_hasGoneStripe_27 (tgt := 32) (by decide) (by omega) (fun h3 => ?_) (fun h3 => ?_)
      · exact absurd h3 (by decide)
      · refine J.iconst d_V_hasGoneStripe_30 (v := nI 1) (by decide) ?_
        first | exact J.zreturn d_V_hasGoneStripe_31 rfl rfl (by decide) (by decide) | exact J.zreturnN d_V_hasGoneStripe_31 rfl (by omega) (by decide) (by decide)
    · rw [if_neg hg]
      refine J.if_eqN d_V_hasGoneStripe_27 (tgt := 32) (by decide) (by omega) (fun h3 => ?_) (fun h3 => ?_)
      · refine J.iincN d_V_hasGoneStripe_32 rfl rfl (by decide) rfl ?_
        refine J.goto d_V_hasGoneStripe_35 (tgt := 2) (by decide) ?_
        exact lp_V_hasGone hK hK4 hM ho hp hln j (i + 1) (by omega) (anyB_not (by simpa [gn] using hg) ha)
      · exact absurd rfl h3
theorem con_V_hasGoneStripe {o : Nat} (hK : 0 < K) (hK4 : K ≤ 4) (hM : Mo ≤ 3) (ho : o < 6) (hp : ∀ i, pl i ≤ 80) (hln : ln o ≤ 32) : Con l i_V_hasGoneStripe [.ref 0, .int (nI o)] (CA K Mo dr dl ou ol da eq al us by_ ln pl X) (.inl (some (.int (nI (b2n (anyB (gn pl Mo o (K + Mo)) (ns K (ln o)))))), (CA K Mo dr dl ou ol da eq al us by_ ln pl X))) := by
  refine Con.of ?_
  refine J.iconst d_V_hasGoneStripe_0 (v := nI 0) (by decide) ?_
  refine J.istore_n d_V_hasGoneStripe_1 rfl (by decide) rfl ?_
  exact lp_V_hasGone hK hK4 hM ho hp hln (ns K (ln o)) 0 (by omega) rfl
end OBJ
end
section
/-! A stripe that isn't gone has a shard for every line -/
theorem nkB_congr {ls ls' : Nat → Bool} {Sh : Nat} (h : ∀ i, i < Sh → ls i = ls' i) : ∀ n i, nkB ls Sh n i = nkB ls' Sh n i
  | 0, _ => rfl
  | n + 1, i => by
    unfold nkB
    by_cases hi : i < Sh
    · rw [h i hi, nkB_congr h n]
    · rw [if_neg (fun z => hi z.1), if_neg (fun z => hi z.1)]
theorem selS_congr {ls ls' : Nat → Bool} {K Sh : Nat} (hK : K ≤ Sh) (h : ∀ i, i < Sh → ls i = ls' i) : ∀ j, j ≤ K → selS ls K Sh j = selS ls' K Sh j
  | 0, _ => rfl
  | j + 1, hj => by
    unfold selS
    rw [selS_congr hK h j (by omega), h j (by omega), nkB_congr h]
/-- seven bits as a number -/
def m7 (ls : Nat → Bool) : Nat := b2n (ls 0) + 2 * b2n (ls 1) + 4 * b2n (ls 2) + 8 * b2n (ls 3) + 16 * b2n (ls 4) + 32 * b2n (ls 5) + 64 * b2n (ls 6)
theorem m7_tab : ∀ m, m < 128 → ∀ h, h < 7 → (m.testBit h = decide (m / 2 ^ h % 2 = 1)) := by decide +kernel
theorem m7_lt (ls : Nat → Bool) : m7 ls < 128 := by
  have h0 := b2n_lt (ls 0); have h1 := b2n_lt (ls 1); have h2 := b2n_lt (ls 2); have h3 := b2n_lt (ls 3); have h4 := b2n_lt (ls 4); have h5 := b2n_lt (ls 5); have h6 := b2n_lt (ls 6)
  unfold m7; omega
theorem b2n_one (b : Bool) : decide (b2n b = 1) = b := by cases b <;> rfl
theorem m7_at (ls : Nat → Bool) {h : Nat} (hh : h < 7) : ls h = (m7 ls).testBit h := by
  rw [m7_tab _ (m7_lt ls) h hh]
  have h0 := b2n_lt (ls 0); have h1 := b2n_lt (ls 1); have h2 := b2n_lt (ls 2); have h3 := b2n_lt (ls 3); have h4 := b2n_lt (ls 4); have h5 := b2n_lt (ls 5); have h6 := b2n_lt (ls 6)
  rw [← b2n_one (ls h)]
  congr 1
  rcases (show h = 0 ∨ h = 1 ∨ h = 2 ∨ h = 3 ∨ h = 4 ∨ h = 5 ∨ h = 6 by omega) with rfl | rfl | rfl | rfl | rfl | rfl | rfl <;> unfold m7 <;> simp only [Nat.reducePow, Nat.div_one] <;> apply propext <;> omega
/-- the check, by numbers -/
def selB (m K Mo : Nat) : Bool := (List.range K).all (fun j => decide ((selS (fun h => m.testBit h) K (K + Mo) (j + 1)).2.2 j < K + Mo) && !(m.testBit ((selS (fun h => m.testBit h) K (K + Mo) (j + 1)).2.2 j)) && decide ((selS (fun h => m.testBit h) K (K + Mo) j).1 ≤ K + Mo) && decide ((selS (fun h => m.testBit h) K (K + Mo) K).2.2 j = (selS (fun h => m.testBit h) K (K + Mo) (j + 1)).2.2 j))
theorem selB_tab : (List.range 4).all (fun K => (List.range 3).all (fun Mo => (List.range 128).all (fun m => decide (¬ cs (fun h => b2n (m.testBit h)) (K + 1 + (Mo + 1)) ≤ Mo + 1) || selB m (K + 1) (Mo + 1)))) = true := by decide +kernel
theorem selOk_of {K Mo : Nat} {ls : Nat → Bool} (hK : 0 < K) (hK4 : K ≤ 4) (hM0 : 0 < Mo) (hM : Mo ≤ 3) (hn : cs (fun h => b2n (ls h)) (K + Mo) ≤ Mo) : selOk ls K (K + Mo) := by
  have hb := List.all_eq_true.mp (List.all_eq_true.mp (List.all_eq_true.mp selB_tab (K - 1) (List.mem_range.mpr (by omega))) (Mo - 1) (List.mem_range.mpr (by omega))) (m7 ls) (List.mem_range.mpr (m7_lt ls))
  rw [show K - 1 + 1 = K by omega, show Mo - 1 + 1 = Mo by omega] at hb
  have hag : ∀ i, i < K + Mo → ls i = (m7 ls).testBit i := fun i hi => m7_at ls (by omega)
  have e : cs (fun h => b2n ((m7 ls).testBit h)) (K + Mo) = cs (fun h => b2n (ls h)) (K + Mo) := cs_congr _ (fun i hi => by rw [hag i hi])
  rw [e, decide_eq_false (by omega), Bool.false_or] at hb
  intro j hj
  have := List.all_eq_true.mp hb j (List.mem_range.mpr hj)
  simp only [Bool.and_eq_true, decide_eq_true_eq, Bool.not_eq_true'] at this
  obtain ⟨⟨⟨h1, h2⟩, h3⟩, h4⟩ := this
  rw [selS_congr (ls' := fun h => (m7 ls).testBit h) (by omega) hag (j + 1) (by omega), selS_congr (ls' := fun h => (m7 ls).testBit h) (by omega) hag j (by omega), selS_congr (ls' := fun h => (m7 ls).testBit h) (by omega) hag K (Nat.le_refl _)]
  exact ⟨h1, by rw [hag _ h1]; exact h2, h3, h4⟩
theorem nl_ls (pl : Nat → Nat) (o s Sh : Nat) : nl pl o s Sh = cs (fun h => b2n (lsB pl o s h)) Sh := by
  unfold nl
  refine cs_congr Sh (fun h _ => ?_)
  unfold z1 lsB b2n
  by_cases h0 : pl (56 * o + 7 * s + h) = 0 <;> simp [h0]
theorem selOk_nl {K Mo : Nat} {pl : Nat → Nat} {o s : Nat} (hK : 0 < K) (hK4 : K ≤ 4) (hM0 : 0 < Mo) (hM : Mo ≤ 3) (hn : nl pl o s (K + Mo) ≤ Mo) : selOk (lsB pl o s) K (K + Mo) := selOk_of hK hK4 hM0 hM (by rw [← nl_ls]; exact hn)
end
section
/-! repair, and the loops of get and check: the class's side -/
section LOOPS
variable {l : Launch} {K Mo dl ol : Nat} {dr ou da eq al us by_ ln pl : Nat → Nat} {X : List va_E}
/-- the equations, how many were placed, what is there -/
abbrev Q4 : Type := ED × Nat × U3
def rpq (K Mo : Nat) (al : Nat → Nat) (o s : Nat) (x : Q4) : Q4 :=
  if Mo < nl x.2.2.2.2 o s (K + Mo) ∨ nl x.2.2.2.2 o s (K + Mo) = 0 then x else
    (rdC K (K + Mo) (lsB x.2.2.2.2 o s) (vb x.2.2.2.2 x.2.2.2.1 o s) x.1.1 x.1.2,
     x.2.1 + (rpS K (rdC K (K + Mo) (lsB x.2.2.2.2 o s) (vb x.2.2.2.2 x.2.2.2.1 o s) x.1.1 x.1.2).2 al o s (K + Mo) x.2.2 (K + Mo)).1,
     (rpS K (rdC K (K + Mo) (lsB x.2.2.2.2 o s) (vb x.2.2.2.2 x.2.2.2.1 o s) x.1.1 x.1.2).2 al o s (K + Mo) x.2.2 (K + Mo)).2)
def rpt (K Mo : Nat) (al : Nat → Nat) (o : Nat) (x : Q4) : Nat → Q4
  | 0 => x
  | s + 1 => rpq K Mo al o s (rpt K Mo al o x s)
def rpo (K Mo : Nat) (al ln : Nat → Nat) (x : Q4) : Nat → Q4
  | 0 => x
  | o + 1 => rpt K Mo al o (rpo K Mo al ln x o) (ns K (ln o))
def okQ (x : Q4) : Prop := b256 x.1 ∧ okU x.2.2
theorem rpq_ok {K Mo : Nat} {al : Nat → Nat} {o s : Nat} {x : Q4} (h : okQ x) : okQ (rpq K Mo al o s x) ∧ (rpq K Mo al o s x).2.1 ≤ x.2.1 + (K + Mo) := by
  unfold rpq; split
  · exact ⟨h, by omega⟩
  · have hb := rdC_b (K := K) (Sh := K + Mo) (ls := lsB x.2.2.2.2 o s) (v := vb x.2.2.2.2 x.2.2.2.1 o s) h.1.1 h.1.2 (fun _ _ => h.2.2.1 _)
    have hr := rpS_ok (K := K) (al := al) (o := o) (s := s) (Sh := K + Mo) h.2 hb.2 (K + Mo)
    exact ⟨⟨hb, hr.1⟩, by have := hr.2; show _ + _ ≤ _; omega⟩
theorem rpt_ok {K Mo : Nat} {al : Nat → Nat} {o : Nat} {x : Q4} (h : okQ x) : ∀ n, okQ (rpt K Mo al o x n) ∧ (rpt K Mo al o x n).2.1 ≤ x.2.1 + n * (K + Mo)
  | 0 => ⟨h, by simp [rpt]⟩
  | n + 1 => by
    have ih := rpt_ok (K := K) (Mo := Mo) (al := al) (o := o) h n
    have := rpq_ok (K := K) (Mo := Mo) (al := al) (o := o) (s := n) ih.1
    refine ⟨this.1, ?_⟩
    rw [Nat.succ_mul]
    show (rpq _ _ _ _ _ _).2.1 ≤ _
    omega
theorem rpo_ok {K Mo : Nat} {al ln : Nat → Nat} {x : Q4} (hK : 0 < K) (hS : K + Mo ≤ 7) (hln : ∀ o, ln o ≤ 32) (h : okQ x) : ∀ n, okQ (rpo K Mo al ln x n) ∧ (rpo K Mo al ln x n).2.1 ≤ x.2.1 + n * 56
  | 0 => ⟨h, by simp [rpo]⟩
  | n + 1 => by
    have ih := rpo_ok (al := al) hK hS hln h n
    have := rpt_ok (K := K) (Mo := Mo) (al := al) (o := n) ih.1 (ns K (ln n))
    have h8 := ns_le hK (hln n)
    have h9 : ns K (ln n) * (K + Mo) ≤ 8 * 7 := Nat.mul_le_mul h8 hS
    refine ⟨this.1, ?_⟩
    show (rpt _ _ _ _ _ _).2.1 ≤ _
    omega
theorem lp_V_rpt {o : Nat} {x : Q4} (hx : okQ x) (hc : x.2.1 ≤ 1000) (hK : 0 < K) (hK4 : K ≤ 4) (hM0 : 0 < Mo) (hM : Mo ≤ 3) (ho : o < 6) (ha : ∀ i, al i < 2) (hln : ln o ≤ 32) {out : Out}
    (kk : J l i_V_repair 46 [(0, .ref 0), (1, .int (nI (rpt K Mo al o x (ns K (ln o))).2.1)), (2, .int (nI o))] [] (CA K Mo dr dl ou ol ((rpt K Mo al o x (ns K (ln o))).1.2) ((rpt K Mo al o x (ns K (ln o))).1.1) al ((rpt K Mo al o x (ns K (ln o))).2.2.1) ((rpt K Mo al o x (ns K (ln o))).2.2.2.1) ln ((rpt K Mo al o x (ns K (ln o))).2.2.2.2) X) 0 0 out) : ∀ (j i : Nat), i + j = ns K (ln o) →
    J l i_V_repair 12 [(0, .ref 0), (1, .int (nI (rpt K Mo al o x i).2.1)), (2, .int (nI o)), (3, .int (nI i))] [] (CA K Mo dr dl ou ol ((rpt K Mo al o x i).1.2) ((rpt K Mo al o x i).1.1) al ((rpt K Mo al o x i).2.2.1) ((rpt K Mo al o x i).2.2.2.1) ln ((rpt K Mo al o x i).2.2.2.2) X) 0 0 out
  | 0, i, hi => by
    have hn8 := ns_le hK hln
    have hi' : i = ns K (ln o) := by omega
    rw [hi']
    refine J.iload_n d_V_repair_12 rfl rfl ?_
    refine J.aload_n d_V_repair_13 rfl rfl ?_
    refine J.getfield d_V_repair_14 fl_V_32 rfl rfl ?_
    refine J.iload_n d_V_repair_17 rfl rfl ?_
    refine J.v1i (con_G_stripesOf ho hK hK4 (by omega)) k_V_repair_G_stripesOf d_V_repair_18 rfl rfl rfl ?_
    refine J.icmp_geN d_V_repair_21 (tgt := 46) (by decide) (by omega) (by omega) (fun h => ?_) (fun h => ?_)
    · exact J.sub [0, 1, 2] kk
    · omega
  | j + 1, i, hi => by
    have hn8 := ns_le hK hln
    have hS : K + Mo ≤ 7 := by omega
    have hs8 : i < 8 := by omega
    have hok := rpt_ok (K := K) (Mo := Mo) (al := al) (o := o) hx i
    have h56 : i * (K + Mo) ≤ 8 * 7 := Nat.mul_le_mul (by omega) hS
    have ih := lp_V_rpt hx hc hK hK4 hM0 hM ho ha hln kk j (i + 1) (by omega)
    have e : rpt K Mo al o x (i + 1) = rpq K Mo al o i (rpt K Mo al o x i) := rfl
    rw [e] at ih
    generalize rpt K Mo al o x i = y at hok ih ⊢
    refine J.iload_n d_V_repair_12 rfl rfl ?_
    refine J.aload_n d_V_repair_13 rfl rfl ?_
    refine J.getfield d_V_repair_14 fl_V_32 rfl rfl ?_
    refine J.iload_n d_V_repair_17 rfl rfl ?_
    refine J.v1i (con_G_stripesOf ho hK hK4 (by omega)) k_V_repair_G_stripesOf d_V_repair_18 rfl rfl rfl ?_
    refine J.icmp_geN d_V_repair_21 (tgt := 46) (by decide) (by omega) (by omega) (fun h => ?_) (fun h => ?_)
    · omega
    refine J.iload_n d_V_repair_24 rfl rfl ?_
    refine J.aload_n d_V_repair_25 rfl rfl ?_
    refine J.aload_n d_V_repair_26 rfl rfl ?_
    refine J.getfield d_V_repair_27 fl_V_32 rfl rfl ?_
    refine J.iload_n d_V_repair_30 rfl rfl ?_
    refine J.iload_n d_V_repair_31 rfl rfl ?_
    refine J.v2i con_G_rowOf k_V_repair_G_rowOf d_V_repair_32 rfl rfl rfl ?_
    by_cases hg : Mo < nl y.2.2.2.2 o i (K + Mo) ∨ nl y.2.2.2.2 o i (K + Mo) = 0
    · unfold rpq at ih
      rw [if_pos hg] at ih
      refine J.v1i (con_V_repairStripe0 hK hS ho hs8 hok.1.2.2.2 hg) k_V_repair_V_repairStripe d_V_repair_35 rfl rfl rfl ?_
      refine J.iaddN d_V_repair_38 ?_
      refine J.istore_n d_V_repair_39 rfl (by decide) rfl ?_
      refine J.iincN d_V_repair_40 rfl rfl (by decide) rfl ?_
      refine J.goto d_V_repair_43 (tgt := 12) (by decide) ?_
      exact ih
    · unfold rpq at ih
      rw [if_neg hg] at ih
      refine J.v1i (con_V_repairStripe hK hK4 hM ho hs8 hok.1.2 ha (selOk_nl hK hK4 hM0 hM (by omega)) hok.1.1.1 hok.1.1.2 (by omega) (by omega)) k_V_repair_V_repairStripe d_V_repair_35 rfl rfl rfl ?_
      refine J.iaddN d_V_repair_38 ?_
      refine J.istore_n d_V_repair_39 rfl (by decide) rfl ?_
      refine J.iincN d_V_repair_40 rfl rfl (by decide) rfl ?_
      refine J.goto d_V_repair_43 (tgt := 12) (by decide) ?_
      exact ih
theorem lp_V_rpo {x : Q4} (hx : okQ x) (hc : x.2.1 = 0) (hK : 0 < K) (hK4 : K ≤ 4) (hM0 : 0 < Mo) (hM : Mo ≤ 3) (ha : ∀ i, al i < 2) (hln : ∀ o, ln o ≤ 32) : ∀ (j i : Nat), i + j = 6 →
    J l i_V_repair 4 [(0, .ref 0), (1, .int (nI (rpo K Mo al ln x i).2.1)), (2, .int (nI i))] [] (CA K Mo dr dl ou ol ((rpo K Mo al ln x i).1.2) ((rpo K Mo al ln x i).1.1) al ((rpo K Mo al ln x i).2.2.1) ((rpo K Mo al ln x i).2.2.2.1) ln ((rpo K Mo al ln x i).2.2.2.2) X) 0 0 (.inl (some (.int (nI (rpo K Mo al ln x 6).2.1)), (CA K Mo dr dl ou ol ((rpo K Mo al ln x 6).1.2) ((rpo K Mo al ln x 6).1.1) al ((rpo K Mo al ln x 6).2.2.1) ((rpo K Mo al ln x 6).2.2.2.1) ln ((rpo K Mo al ln x 6).2.2.2.2) X)))
  | 0, i, hi => by
    have hi' : i = 6 := by omega
    rw [hi']
    refine J.iload_n d_V_repair_4 rfl rfl ?_
    refine J.bipush d_V_repair_5 (v := nI 6) (by decide) ?_
    refine J.icmp_geN d_V_repair_7 (tgt := 52) (by decide) (by omega) (by omega) (fun h => ?_) (fun h => ?_)
    · refine J.iload_n d_V_repair_52 rfl rfl ?_
      exact J.ireturn d_V_repair_53 rfl (by decide) (by decide)
    · omega
  | j + 1, i, hi => by
    have hS : K + Mo ≤ 7 := by omega
    have hok := rpo_ok (al := al) hK hS hln hx i
    have ih := lp_V_rpo hx hc hK hK4 hM0 hM ha hln j (i + 1) (by omega)
    have e : rpo K Mo al ln x (i + 1) = rpt K Mo al i (rpo K Mo al ln x i) (ns K (ln i)) := rfl
    rw [e] at ih
    refine J.iload_n d_V_repair_4 rfl rfl ?_
    refine J.bipush d_V_repair_5 (v := nI 6) (by decide) ?_
    refine J.icmp_geN d_V_repair_7 (tgt := 52) (by decide) (by omega) (by omega) (fun h => ?_) (fun h => ?_)
    · omega
    refine J.iconst d_V_repair_10 (v := nI 0) (by decide) ?_
    refine J.istore_n d_V_repair_11 rfl (by decide) rfl ?_
    refine lp_V_rpt (x := rpo K Mo al ln x i) hok.1 (by omega) hK hK4 hM0 hM (by omega) ha (hln i) ?_ (ns K (ln i)) 0 (by omega)
    refine J.iincN d_V_repair_46 rfl rfl (by decide) rfl ?_
    refine J.goto d_V_repair_49 (tgt := 4) (by decide) ?_
    exact ih
theorem con_V_repair (hx : okU (us, by_, pl)) (he : ∀ i, eq i < 256) (hda : ∀ i, da i < 256) (hK : 0 < K) (hK4 : K ≤ 4) (hM0 : 0 < Mo) (hM : Mo ≤ 3) (ha : ∀ i, al i < 2) (hln : ∀ o, ln o ≤ 32) : Con l i_V_repair [.ref 0] (CA K Mo dr dl ou ol da eq al us by_ ln pl X) (.inl (some (.int (nI (rpo K Mo al ln ((eq, da), 0, us, by_, pl) 6).2.1)), (CA K Mo dr dl ou ol ((rpo K Mo al ln ((eq, da), 0, us, by_, pl) 6).1.2) ((rpo K Mo al ln ((eq, da), 0, us, by_, pl) 6).1.1) al ((rpo K Mo al ln ((eq, da), 0, us, by_, pl) 6).2.2.1) ((rpo K Mo al ln ((eq, da), 0, us, by_, pl) 6).2.2.2.1) ln ((rpo K Mo al ln ((eq, da), 0, us, by_, pl) 6).2.2.2.2) X))) := by
  refine Con.of ?_
  refine J.iconst d_V_repair_0 (v := nI 0) (by decide) ?_
  refine J.istore_n d_V_repair_1 rfl (by decide) rfl ?_
  refine J.iconst d_V_repair_2 (v := nI 0) (by decide) ?_
  refine J.istore_n d_V_repair_3 rfl (by decide) rfl ?_
  exact lp_V_rpo (x := ((eq, da), 0, us, by_, pl)) ⟨⟨he, hda⟩, hx⟩ rfl hK hK4 hM0 hM ha hln 6 0 (by omega)
end LOOPS
end
section
/-! The class's answers, one case a row; what it throws -/
section SMALL
variable {l : Launch} {K Mo dl ol : Nat} {dr ou da eq al us by_ ln pl : Nat → Nat} {X : List va_E}
theorem con_V_isObj1 {o : Nat} (ho : o < 6) (M : List va_E) : Con l i_V_isObjectNumber [.int (nI o)] M (.inl (some (.int (nI 1)), M)) := by
  refine Con.of ?_
  refine J.iload_n d_V_isObjectNumber_0 rfl rfl ?_
  refine J.if_ltN d_V_isObjectNumber_1 (tgt := 14) (by decide) (by omega) (fun _ => ?_)
  refine J.iload_n d_V_isObjectNumber_4 rfl rfl ?_
  refine J.bipush d_V_isObjectNumber_5 (v := nI 6) (by decide) ?_
  refine J.icmp_geN d_V_isObjectNumber_7 (tgt := 14) (by decide) (by omega) (by omega) (fun h => ?_) (fun h => ?_)
  · omega
  · refine J.iconst d_V_isObjectNumber_10 (v := nI 1) (by decide) ?_
    refine J.goto d_V_isObjectNumber_11 (tgt := 15) (by decide) ?_
    first | exact J.zreturn d_V_isObjectNumber_15 rfl rfl (by decide) (by decide) | exact J.zreturnN d_V_isObjectNumber_15 rfl (by omega) (by decide) (by decide)
theorem con_V_isObj0 {x : Int32} (hx : x < 0 ∨ nI 6 ≤ x) (M : List va_E) : Con l i_V_isObjectNumber [.int x] M (.inl (some (.int (nI 0)), M)) := by
  refine Con.of ?_
  refine J.iload_n d_V_isObjectNumber_0 rfl rfl ?_
  refine J.if_lt d_V_isObjectNumber_1 (tgt := 14) (by decide) (fun h => ?_) (fun h => ?_)
  · refine J.iconst d_V_isObjectNumber_14 (v := nI 0) (by decide) ?_
    first | exact J.zreturn d_V_isObjectNumber_15 rfl rfl (by decide) (by decide) | exact J.zreturnN d_V_isObjectNumber_15 rfl (by omega) (by decide) (by decide)
  refine J.iload_n d_V_isObjectNumber_4 rfl rfl ?_
  refine J.bipush d_V_isObjectNumber_5 (v := nI 6) (by decide) ?_
  refine J.icmp_ge d_V_isObjectNumber_7 (tgt := 14) (by decide) (fun h2 => ?_) (fun h2 => absurd (hx.resolve_left h) h2)
  refine J.iconst d_V_isObjectNumber_14 (v := nI 0) (by decide) ?_
  first | exact J.zreturn d_V_isObjectNumber_15 rfl rfl (by decide) (by decide) | exact J.zreturnN d_V_isObjectNumber_15 rfl (by omega) (by decide) (by decide)
theorem con_V_isDisk1 {o : Nat} (ho : o < 8) (M : List va_E) : Con l i_V_isDiskNumber [.int (nI o)] M (.inl (some (.int (nI 1)), M)) := by
  refine Con.of ?_
  refine J.iload_n d_V_isDiskNumber_0 rfl rfl ?_
  refine J.if_ltN d_V_isDiskNumber_1 (tgt := 14) (by decide) (by omega) (fun _ => ?_)
  refine J.iload_n d_V_isDiskNumber_4 rfl rfl ?_
  refine J.bipush d_V_isDiskNumber_5 (v := nI 8) (by decide) ?_
  refine J.icmp_geN d_V_isDiskNumber_7 (tgt := 14) (by decide) (by omega) (by omega) (fun h => ?_) (fun h => ?_)
  · omega
  · refine J.iconst d_V_isDiskNumber_10 (v := nI 1) (by decide) ?_
    refine J.goto d_V_isDiskNumber_11 (tgt := 15) (by decide) ?_
    first | exact J.zreturn d_V_isDiskNumber_15 rfl rfl (by decide) (by decide) | exact J.zreturnN d_V_isDiskNumber_15 rfl (by omega) (by decide) (by decide)
theorem con_V_isDisk0 {x : Int32} (hx : x < 0 ∨ nI 8 ≤ x) (M : List va_E) : Con l i_V_isDiskNumber [.int x] M (.inl (some (.int (nI 0)), M)) := by
  refine Con.of ?_
  refine J.iload_n d_V_isDiskNumber_0 rfl rfl ?_
  refine J.if_lt d_V_isDiskNumber_1 (tgt := 14) (by decide) (fun h => ?_) (fun h => ?_)
  · refine J.iconst d_V_isDiskNumber_14 (v := nI 0) (by decide) ?_
    first | exact J.zreturn d_V_isDiskNumber_15 rfl rfl (by decide) (by decide) | exact J.zreturnN d_V_isDiskNumber_15 rfl (by omega) (by decide) (by decide)
  refine J.iload_n d_V_isDiskNumber_4 rfl rfl ?_
  refine J.bipush d_V_isDiskNumber_5 (v := nI 8) (by decide) ?_
  refine J.icmp_ge d_V_isDiskNumber_7 (tgt := 14) (by decide) (fun h2 => ?_) (fun h2 => absurd (hx.resolve_left h) h2)
  refine J.iconst d_V_isDiskNumber_14 (v := nI 0) (by decide) ?_
  first | exact J.zreturn d_V_isDiskNumber_15 rfl rfl (by decide) (by decide) | exact J.zreturnN d_V_isDiskNumber_15 rfl (by omega) (by decide) (by decide)
theorem con_V_isByte1 {o : Nat} (ho : o < 256) (M : List va_E) : Con l i_V_isByte [.int (nI o)] M (.inl (some (.int (nI 1)), M)) := by
  refine Con.of ?_
  refine J.iload_n d_V_isByte_0 rfl rfl ?_
  refine J.if_ltN d_V_isByte_1 (tgt := 15) (by decide) (by omega) (fun _ => ?_)
  refine J.iload_n d_V_isByte_4 rfl rfl ?_
  refine J.sipush d_V_isByte_5 (v := nI 255) (by decide) ?_
  refine J.icmp_gtN d_V_isByte_8 (tgt := 15) (by decide) (by omega) (by omega) (fun h => ?_) (fun h => ?_)
  · omega
  · refine J.iconst d_V_isByte_11 (v := nI 1) (by decide) ?_
    refine J.goto d_V_isByte_12 (tgt := 16) (by decide) ?_
    first | exact J.zreturn d_V_isByte_16 rfl rfl (by decide) (by decide) | exact J.zreturnN d_V_isByte_16 rfl (by omega) (by decide) (by decide)
theorem le_of_lt255 {x : Int32} (h : nI 256 ≤ x) : nI 255 < x := by
  rw [Int32.le_iff_toInt_le] at h
  rw [Int32.lt_iff_toInt_lt]
  have e1 : (nI 256).toInt = 256 := by decide +kernel
  have e2 : (nI 255).toInt = 255 := by decide +kernel
  omega
theorem con_V_isByte0 {x : Int32} (hx : x < 0 ∨ nI 256 ≤ x) (M : List va_E) : Con l i_V_isByte [.int x] M (.inl (some (.int (nI 0)), M)) := by
  refine Con.of ?_
  refine J.iload_n d_V_isByte_0 rfl rfl ?_
  refine J.if_lt d_V_isByte_1 (tgt := 15) (by decide) (fun h => ?_) (fun h => ?_)
  · refine J.iconst d_V_isByte_15 (v := nI 0) (by decide) ?_
    first | exact J.zreturn d_V_isByte_16 rfl rfl (by decide) (by decide) | exact J.zreturnN d_V_isByte_16 rfl (by omega) (by decide) (by decide)
  refine J.iload_n d_V_isByte_4 rfl rfl ?_
  refine J.sipush d_V_isByte_5 (v := nI 255) (by decide) ?_
  refine J.icmp_gt d_V_isByte_8 (tgt := 15) (by decide) (fun h2 => ?_) (fun h2 => absurd (le_of_lt255 (hx.resolve_left h)) h2)
  refine J.iconst d_V_isByte_15 (v := nI 0) (by decide) ?_
  first | exact J.zreturn d_V_isByte_16 rfl rfl (by decide) (by decide) | exact J.zreturnN d_V_isByte_16 rfl (by omega) (by decide) (by decide)
theorem hold1 {o : Nat} (h : 0 < ln o) : (if 0 < ln o then 1 else 0) = 1 := if_pos h
theorem con_V_reqO1 {o : Nat} (ho : o < 6) (hl : 0 < ln o) (hl2 : ln o ≤ 32) : Con l i_V_requireObject [.ref 0, .int (nI o)] (CA K Mo dr dl ou ol da eq al us by_ ln pl X) (.inl (none, (CA K Mo dr dl ou ol da eq al us by_ ln pl X))) := by
  have hh := con_G_holds (l := l) (K := K) (Mo := Mo) (dl := dl) (ol := ol) (dr := dr) (ou := ou) (da := da) (eq := eq) (al := al) (fr := frOf us) (tk := tkOf us) (by_ := byOf by_) (ln := ln) (pl := plOf (K + Mo) pl) (X := X) ho (by omega)
  rw [if_pos hl] at hh
  refine Con.of ?_
  refine J.iload_n d_V_requireObject_0 rfl rfl ?_
  refine J.s1i (con_V_isObj1 ho _) k_V_requireObject_V_isObjectNumber d_V_requireObject_1 rfl ?_
  refine J.if_eqN d_V_requireObject_4 (tgt := 18) (by decide) (by omega) (fun h => ?_) (fun h => ?_)
  · exact absurd h (by decide)
  refine J.aload_n d_V_requireObject_7 rfl rfl ?_
  refine J.getfield d_V_requireObject_8 fl_V_32 rfl rfl ?_
  refine J.iload_n d_V_requireObject_11 rfl rfl ?_
  refine J.v1i hh k_V_requireObject_G_holds d_V_requireObject_12 rfl rfl rfl ?_
  refine J.if_neN d_V_requireObject_15 (tgt := 26) (by decide) (by omega) (fun h => ?_) (fun h => ?_)
  · exact J.vreturn d_V_requireObject_26 rfl (by decide) (by decide)
  · exact absurd h (by decide)
/-- an object's number that names none -/
def noO (ln : Nat → Nat) (x : Int32) : Prop := x < 0 ∨ nI 6 ≤ x ∨ ∃ o, o < 6 ∧ x = nI o ∧ ln o = 0
theorem con_V_reqO0 (hl : l.stackTraces = false) {x : Int32} (hx : noO ln x) : Con l i_V_requireObject [.ref 0, .int x] (CA K Mo dr dl ou ol da eq al us by_ ln pl X) (.inr ("java/util/NoSuchElementException", (CA K Mo dr dl ou ol da eq al us by_ ln pl X))) := by
  have thr : ∀ {lv}, J l i_V_requireObject 18 lv [] (CA K Mo dr dl ou ol da eq al us by_ ln pl X) 0 0 (.inr ("java/util/NoSuchElementException", (CA K Mo dr dl ou ol da eq al us by_ ln pl X))) := J.throwNew hl tw_NSE d_V_requireObject_18 d_V_requireObject_21 d_V_requireObject_22 d_V_requireObject_25 rfl (by decide) (by decide) ⟨by decide, by decide⟩ ⟨by decide, by decide⟩
  have out : (x < 0 ∨ nI 6 ≤ x) → Con l i_V_requireObject [.ref 0, .int x] (CA K Mo dr dl ou ol da eq al us by_ ln pl X) (.inr ("java/util/NoSuchElementException", (CA K Mo dr dl ou ol da eq al us by_ ln pl X))) := by
    intro hx
    refine Con.of ?_
    refine J.iload_n d_V_requireObject_0 rfl rfl ?_
    refine J.s1i (con_V_isObj0 hx _) k_V_requireObject_V_isObjectNumber d_V_requireObject_1 rfl ?_
    refine J.if_eqN d_V_requireObject_4 (tgt := 18) (by decide) (by omega) (fun h => ?_) (fun h => ?_)
    · exact thr
    · exact absurd rfl h
  rcases hx with hx | hx | ⟨o, ho, rfl, h0⟩
  · exact out (Or.inl hx)
  · exact out (Or.inr hx)
  · have hh := con_G_holds (l := l) (K := K) (Mo := Mo) (dl := dl) (ol := ol) (dr := dr) (ou := ou) (da := da) (eq := eq) (al := al) (fr := frOf us) (tk := tkOf us) (by_ := byOf by_) (ln := ln) (pl := plOf (K + Mo) pl) (X := X) ho (by omega)
    rw [if_neg (by omega)] at hh
    refine Con.of ?_
    refine J.iload_n d_V_requireObject_0 rfl rfl ?_
    refine J.s1i (con_V_isObj1 ho _) k_V_requireObject_V_isObjectNumber d_V_requireObject_1 rfl ?_
    refine J.if_eqN d_V_requireObject_4 (tgt := 18) (by decide) (by omega) (fun h => ?_) (fun h => ?_)
    · exact absurd h (by decide)
    refine J.aload_n d_V_requireObject_7 rfl rfl ?_
    refine J.getfield d_V_requireObject_8 fl_V_32 rfl rfl ?_
    refine J.iload_n d_V_requireObject_11 rfl rfl ?_
    refine J.v1i hh k_V_requireObject_G_holds d_V_requireObject_12 rfl rfl rfl ?_
    refine J.if_neN d_V_requireObject_15 (tgt := 26) (by decide) (by omega) (fun h => ?_) (fun h => ?_)
    · exact absurd rfl h
    · exact thr
theorem con_V_reqD1 {d : Nat} (hd : d < 8) : Con l i_V_requireDisk [.ref 0, .int (nI d)] (CA K Mo dr dl ou ol da eq al us by_ ln pl X) (.inl (none, (CA K Mo dr dl ou ol da eq al us by_ ln pl X))) := by
  refine Con.of ?_
  refine J.iload_n d_V_requireDisk_0 rfl rfl ?_
  refine J.s1i (con_V_isDisk1 hd _) k_V_requireDisk_V_isDiskNumber d_V_requireDisk_1 rfl ?_
  refine J.if_neN d_V_requireDisk_4 (tgt := 15) (by decide) (by omega) (fun h => ?_) (fun h => ?_)
  · exact J.vreturn d_V_requireDisk_15 rfl (by decide) (by decide)
  · exact absurd h (by decide)
theorem con_V_reqD0 (hl : l.stackTraces = false) {x : Int32} (hx : x < 0 ∨ nI 8 ≤ x) : Con l i_V_requireDisk [.ref 0, .int x] (CA K Mo dr dl ou ol da eq al us by_ ln pl X) (.inr ("java/lang/IllegalArgumentException", (CA K Mo dr dl ou ol da eq al us by_ ln pl X))) := by
  refine Con.of ?_
  refine J.iload_n d_V_requireDisk_0 rfl rfl ?_
  refine J.s1i (con_V_isDisk0 hx _) k_V_requireDisk_V_isDiskNumber d_V_requireDisk_1 rfl ?_
  refine J.if_neN d_V_requireDisk_4 (tgt := 15) (by decide) (by omega) (fun h => ?_) (fun h => ?_)
  · exact absurd rfl h
  · exact J.throwNew hl tw_IAE d_V_requireDisk_7 d_V_requireDisk_10 d_V_requireDisk_11 d_V_requireDisk_14 rfl (by decide) (by decide) ⟨by decide, by decide⟩ ⟨by decide, by decide⟩
theorem tk10 {d s : Nat} (hd : d < 8) (hs : s < 10) (h2 : ∀ i, us i < 2) : Con l i_D_isTaken [.ref 5, .int (nI (16 * d + s))] (CA K Mo dr dl ou ol da eq al us by_ ln pl X) (.inl (some (.int (nI (us (10 * d + s)))), (CA K Mo dr dl ou ol da eq al us by_ ln pl X))) := by
  have := con_D_isTaken (l := l) (K := K) (Mo := Mo) (dl := dl) (ol := ol) (dr := dr) (ou := ou) (da := da) (eq := eq) (al := al) (fr := frOf us) (tk := tkOf us) (by_ := byOf by_) (ln := ln) (pl := plOf (K + Mo) pl) (X := X) (q := 16 * d + s) (by omega) (tk_lt h2 _)
  rw [tk_at us hs] at this
  exact this
theorem con_V_reqB1 {d s i : Nat} (hd : d < 8) (hs : s < 10) (hi : i < 4) (h2 : ∀ i, us i < 2) (hu : us (10 * d + s) = 1) : Con l i_V_requireStoredByte [.ref 0, .int (nI d), .int (nI s), .int (nI i)] (CA K Mo dr dl ou ol da eq al us by_ ln pl X) (.inl (none, (CA K Mo dr dl ou ol da eq al us by_ ln pl X))) := by
  have ht := tk10 (l := l) (K := K) (Mo := Mo) (dl := dl) (ol := ol) (dr := dr) (ou := ou) (da := da) (eq := eq) (al := al) (us := us) (by_ := by_) (ln := ln) (pl := pl) (X := X) hd hs h2
  rw [hu] at ht
  refine Con.of ?_
  refine J.aload_n d_V_requireStoredByte_0 rfl rfl ?_
  refine J.iload_n d_V_requireStoredByte_1 rfl rfl ?_
  refine J.v1v (con_V_reqD1 hd) k_V_requireStoredByte_V_requireDisk d_V_requireStoredByte_2 rfl rfl rfl ?_
  refine J.iload_n d_V_requireStoredByte_5 rfl rfl ?_
  refine J.if_ltN d_V_requireStoredByte_6 (tgt := 24) (by decide) (by omega) (fun _ => ?_)
  refine J.iload_n d_V_requireStoredByte_9 rfl rfl ?_
  refine J.bipush d_V_requireStoredByte_10 (v := nI 10) (by decide) ?_
  refine J.icmp_geN d_V_requireStoredByte_12 (tgt := 24) (by decide) (by omega) (by omega) (fun h => ?_) (fun h => ?_)
  · omega
  refine J.iload_n d_V_requireStoredByte_15 rfl rfl ?_
  refine J.if_ltN d_V_requireStoredByte_16 (tgt := 24) (by decide) (by omega) (fun _ => ?_)
  refine J.iload_n d_V_requireStoredByte_19 rfl rfl ?_
  refine J.iconst d_V_requireStoredByte_20 (v := nI 4) (by decide) ?_
  refine J.icmp_ltN d_V_requireStoredByte_21 (tgt := 32) (by decide) (by omega) (by omega) (fun h3 => ?_) (fun h3 => ?_)
  · refine J.aload_n d_V_requireStoredByte_32 rfl rfl ?_
    refine J.getfield d_V_requireStoredByte_33 fl_V_25 rfl rfl ?_
    refine J.iload_n d_V_requireStoredByte_36 rfl rfl ?_
    refine J.iload_n d_V_requireStoredByte_37 rfl rfl ?_
    refine J.s2i (con_V_placeAt d s _) k_V_requireStoredByte_V_placeAt d_V_requireStoredByte_38 rfl ?_
    refine J.v1i ht k_V_requireStoredByte_D_isTaken d_V_requireStoredByte_41 rfl rfl rfl ?_
    refine J.if_neN d_V_requireStoredByte_44 (tgt := 55) (by decide) (by omega) (fun h4 => ?_) (fun h4 => ?_)
    · exact J.vreturn d_V_requireStoredByte_55 rfl (by decide) (by decide)
    · exact absurd h4 (by decide)
  · omega
theorem con_V_reqB2 (hl : l.stackTraces = false) {d s i : Nat} (hd : d < 8) (hs : s < 10) (hi : i < 4) (h2 : ∀ i, us i < 2) (hu : us (10 * d + s) = 0) : Con l i_V_requireStoredByte [.ref 0, .int (nI d), .int (nI s), .int (nI i)] (CA K Mo dr dl ou ol da eq al us by_ ln pl X) (.inr ("java/util/NoSuchElementException", (CA K Mo dr dl ou ol da eq al us by_ ln pl X))) := by
  have ht := tk10 (l := l) (K := K) (Mo := Mo) (dl := dl) (ol := ol) (dr := dr) (ou := ou) (da := da) (eq := eq) (al := al) (us := us) (by_ := by_) (ln := ln) (pl := pl) (X := X) hd hs h2
  rw [hu] at ht
  refine Con.of ?_
  refine J.aload_n d_V_requireStoredByte_0 rfl rfl ?_
  refine J.iload_n d_V_requireStoredByte_1 rfl rfl ?_
  refine J.v1v (con_V_reqD1 hd) k_V_requireStoredByte_V_requireDisk d_V_requireStoredByte_2 rfl rfl rfl ?_
  refine J.iload_n d_V_requireStoredByte_5 rfl rfl ?_
  refine J.if_ltN d_V_requireStoredByte_6 (tgt := 24) (by decide) (by omega) (fun _ => ?_)
  refine J.iload_n d_V_requireStoredByte_9 rfl rfl ?_
  refine J.bipush d_V_requireStoredByte_10 (v := nI 10) (by decide) ?_
  refine J.icmp_geN d_V_requireStoredByte_12 (tgt := 24) (by decide) (by omega) (by omega) (fun h => ?_) (fun h => ?_)
  · omega
  refine J.iload_n d_V_requireStoredByte_15 rfl rfl ?_
  refine J.if_ltN d_V_requireStoredByte_16 (tgt := 24) (by decide) (by omega) (fun _ => ?_)
  refine J.iload_n d_V_requireStoredByte_19 rfl rfl ?_
  refine J.iconst d_V_requireStoredByte_20 (v := nI 4) (by decide) ?_
  refine J.icmp_ltN d_V_requireStoredByte_21 (tgt := 32) (by decide) (by omega) (by omega) (fun h3 => ?_) (fun h3 => ?_)
  · refine J.aload_n d_V_requireStoredByte_32 rfl rfl ?_
    refine J.getfield d_V_requireStoredByte_33 fl_V_25 rfl rfl ?_
    refine J.iload_n d_V_requireStoredByte_36 rfl rfl ?_
    refine J.iload_n d_V_requireStoredByte_37 rfl rfl ?_
    refine J.s2i (con_V_placeAt d s _) k_V_requireStoredByte_V_placeAt d_V_requireStoredByte_38 rfl ?_
    refine J.v1i ht k_V_requireStoredByte_D_isTaken d_V_requireStoredByte_41 rfl rfl rfl ?_
    refine J.if_neN d_V_requireStoredByte_44 (tgt := 55) (by decide) (by omega) (fun h4 => ?_) (fun h4 => ?_)
    · exact absurd rfl h4
    · exact J.throwNew hl tw_NSE d_V_requireStoredByte_47 d_V_requireStoredByte_50 d_V_requireStoredByte_51 d_V_requireStoredByte_54 rfl (by decide) (by decide) ⟨by decide, by decide⟩ ⟨by decide, by decide⟩
  · omega
/-- numbers that name no byte of a slot -/
def noB (d s i : Int32) : Prop := (d < 0 ∨ nI 8 ≤ d) ∨ ((∃ d', d' < 8 ∧ d = nI d') ∧ (s < 0 ∨ nI 10 ≤ s ∨ i < 0 ∨ nI 4 ≤ i))
theorem con_V_reqB0 (hl : l.stackTraces = false) {d s i : Int32} (hx : noB d s i) : Con l i_V_requireStoredByte [.ref 0, .int d, .int s, .int i] (CA K Mo dr dl ou ol da eq al us by_ ln pl X) (.inr ("java/lang/IllegalArgumentException", (CA K Mo dr dl ou ol da eq al us by_ ln pl X))) := by
  rcases hx with hx | ⟨⟨d', hd, rfl⟩, hx⟩
  · refine Con.of ?_
    refine J.aload_n d_V_requireStoredByte_0 rfl rfl ?_
    refine J.iload_n d_V_requireStoredByte_1 rfl rfl ?_
    exact J.t1 (con_V_reqD0 hl hx) k_V_requireStoredByte_V_requireDisk d_V_requireStoredByte_2 rfl rfl
  · have thr : ∀ {lv}, J l i_V_requireStoredByte 24 lv [] (CA K Mo dr dl ou ol da eq al us by_ ln pl X) (0 + i_V_requireDisk.mc) (0 + i_V_requireDisk.ms) (.inr ("java/lang/IllegalArgumentException", (CA K Mo dr dl ou ol da eq al us by_ ln pl X))) := J.throwNew hl tw_IAE d_V_requireStoredByte_24 d_V_requireStoredByte_27 d_V_requireStoredByte_28 d_V_requireStoredByte_31 rfl (by decide) (by decide) ⟨by decide, by decide⟩ ⟨by decide, by decide⟩
    refine Con.of ?_
    refine J.aload_n d_V_requireStoredByte_0 rfl rfl ?_
    refine J.iload_n d_V_requireStoredByte_1 rfl rfl ?_
    refine J.v1v (con_V_reqD1 hd) k_V_requireStoredByte_V_requireDisk d_V_requireStoredByte_2 rfl rfl rfl ?_
    refine J.iload_n d_V_requireStoredByte_5 rfl rfl ?_
    refine J.if_lt d_V_requireStoredByte_6 (tgt := 24) (by decide) (fun _ => thr) (fun h1 => ?_)
    refine J.iload_n d_V_requireStoredByte_9 rfl rfl ?_
    refine J.bipush d_V_requireStoredByte_10 (v := nI 10) (by decide) ?_
    refine J.icmp_ge d_V_requireStoredByte_12 (tgt := 24) (by decide) (fun _ => thr) (fun h2 => ?_)
    refine J.iload_n d_V_requireStoredByte_15 rfl rfl ?_
    refine J.if_lt d_V_requireStoredByte_16 (tgt := 24) (by decide) (fun _ => thr) (fun h3 => ?_)
    refine J.iload_n d_V_requireStoredByte_19 rfl rfl ?_
    refine J.iconst d_V_requireStoredByte_20 (v := nI 4) (by decide) ?_
    refine J.icmp_lt d_V_requireStoredByte_21 (tgt := 32) (by decide) (fun h4 => ?_) (fun _ => thr)
    exfalso
    rcases hx with z | z | z | z
    · exact h1 z
    · exact h2 z
    · exact h3 z
    · exact absurd h4 (Int32.not_lt.mpr z)
end SMALL
end
section
/-! The class's public methods, one case a row -/
section PUB
variable {l : Launch} {K Mo dl ol : Nat} {dr ou da eq al us by_ ln pl : Nat → Nat} {X : List va_E}
theorem con_V_scrap : Con l i_V_scrap [.ref 0] (CA K Mo dr dl ou ol da eq al us by_ ln pl X) (.inl (none, (CA K Mo dr 0 ou ol da eq al us by_ ln pl X))) := by
  refine Con.of ?_
  refine J.aload_n d_V_scrap_0 rfl rfl ?_
  refine J.iconst d_V_scrap_1 (v := nI 0) (by decide) ?_
  refine J.putfield d_V_scrap_2 (fs_V_40 _) rfl (Nat.le_of_ble_eq_true rfl) rfl rfl ?_
  exact J.vreturn d_V_scrap_5 rfl (by decide) (by decide)
theorem con_V_drop1 {o : Nat} (hx : okR (0, us, pl)) (hK : 0 < K) (hK4 : K ≤ 4) (hM : Mo ≤ 3) (ho : o < 6) (hl : 0 < ln o) (hln : ln o ≤ 32) : Con l i_V_drop [.ref 0, .int (nI o)] (CA K Mo dr dl ou ol da eq al us by_ ln pl X) (.inl (some (.int (nI (rlS o (K + Mo) (0, us, pl) (ns K (ln o))).1)), (CA K Mo dr dl ou ol da eq al ((rlS o (K + Mo) (0, us, pl) (ns K (ln o))).2.1) by_ (up ln o 0) ((rlS o (K + Mo) (0, us, pl) (ns K (ln o))).2.2) X))) := by
  refine Con.of ?_
  refine J.aload_n d_V_drop_0 rfl rfl ?_
  refine J.iload_n d_V_drop_1 rfl rfl ?_
  refine J.v1v (con_V_reqO1 ho hl hln) k_V_drop_V_requireObject d_V_drop_2 rfl rfl rfl ?_
  refine J.aload_n d_V_drop_5 rfl rfl ?_
  refine J.iload_n d_V_drop_6 rfl rfl ?_
  refine J.v1i (con_V_releaseObject hx hK hK4 hM ho hln) k_V_drop_V_releaseObject d_V_drop_7 rfl rfl rfl ?_
  exact J.ireturn d_V_drop_10 rfl (by decide) (by decide)
theorem con_V_drop0 (hl : l.stackTraces = false) {x : Int32} (hx : noO ln x) : Con l i_V_drop [.ref 0, .int x] (CA K Mo dr dl ou ol da eq al us by_ ln pl X) (.inr ("java/util/NoSuchElementException", (CA K Mo dr dl ou ol da eq al us by_ ln pl X))) := by
  refine Con.of ?_
  refine J.aload_n d_V_drop_0 rfl rfl ?_
  refine J.iload_n d_V_drop_1 rfl rfl ?_
  exact J.t1 (con_V_reqO0 hl hx) k_V_drop_V_requireObject d_V_drop_2 rfl rfl
theorem con_V_at1 {i : Nat} (hi : i < ol) (ho : ol ≤ 32) : Con l i_V_at [.ref 0, .int (nI i)] (CA K Mo dr dl ou ol da eq al us by_ ln pl X) (.inl (some (.int (nI (ou i))), (CA K Mo dr dl ou ol da eq al us by_ ln pl X))) := by
  refine Con.of ?_
  refine J.iload_n d_V_at_0 rfl rfl ?_
  refine J.if_ltN d_V_at_1 (tgt := 12) (by decide) (by omega) (fun _ => ?_)
  refine J.iload_n d_V_at_4 rfl rfl ?_
  refine J.aload_n d_V_at_5 rfl rfl ?_
  refine J.getfield d_V_at_6 fl_V_47 rfl rfl ?_
  refine J.icmp_ltN d_V_at_9 (tgt := 20) (by decide) (by omega) (by omega) (fun h => ?_) (fun h => ?_)
  · refine J.aload_n d_V_at_20 rfl rfl ?_
    refine J.getfield d_V_at_21 fl_V_44 rfl rfl ?_
    refine J.iload_n d_V_at_24 rfl rfl ?_
    refine J.ialoadN d_V_at_25 rfl (by omega) (by omega) ?_
    exact J.ireturn d_V_at_26 rfl (by decide) (by decide)
  · omega
theorem con_V_at0 (hl : l.stackTraces = false) {x : Int32} (hx : x < 0 ∨ nI ol ≤ x) : Con l i_V_at [.ref 0, .int x] (CA K Mo dr dl ou ol da eq al us by_ ln pl X) (.inr ("java/lang/IndexOutOfBoundsException", (CA K Mo dr dl ou ol da eq al us by_ ln pl X))) := by
  have thr : ∀ {lv}, J l i_V_at 12 lv [] (CA K Mo dr dl ou ol da eq al us by_ ln pl X) 0 0 (.inr ("java/lang/IndexOutOfBoundsException", (CA K Mo dr dl ou ol da eq al us by_ ln pl X))) := J.throwNew hl tw_IOB d_V_at_12 d_V_at_15 d_V_at_16 d_V_at_19 rfl (by decide) (by decide) ⟨by decide, by decide⟩ ⟨by decide, by decide⟩
  refine Con.of ?_
  refine J.iload_n d_V_at_0 rfl rfl ?_
  refine J.if_lt d_V_at_1 (tgt := 12) (by decide) (fun _ => thr) (fun h => ?_)
  refine J.iload_n d_V_at_4 rfl rfl ?_
  refine J.aload_n d_V_at_5 rfl rfl ?_
  refine J.getfield d_V_at_6 fl_V_47 rfl rfl ?_
  refine J.icmp_lt d_V_at_9 (tgt := 20) (by decide) (fun h2 => absurd h2 (Int32.not_lt.mpr (hx.resolve_left h))) (fun _ => thr)
theorem con_V_fail1 {d : Nat} (hd : d < 8) (ha : al d = 1) (h2 : ∀ i, us i < 2) (hp : ∀ i, pl i ≤ 80) : Con l i_V_fail [.ref 0, .int (nI d)] (CA K Mo dr dl ou ol da eq al us by_ ln pl X) (.inl (some (.int (nI (ud us d))), (CM K Mo dr dl ou ol da eq (up al d 0) (up (frOf us) d 10) (fz (tkOf us) d 10) (byOf by_) ln (lz (plOf (K + Mo) pl) d 336) X))) := by
  have hle := ud_le h2 d
  have hal := con_D_isAlive (l := l) (K := K) (Mo := Mo) (dl := dl) (ol := ol) (dr := dr) (ou := ou) (da := da) (eq := eq) (al := al) (fr := frOf us) (tk := tkOf us) (by_ := byOf by_) (ln := ln) (pl := plOf (K + Mo) pl) (X := X) hd (by omega)
  rw [ha] at hal
  have hfs := con_D_freeSlotsOf (l := l) (K := K) (Mo := Mo) (dl := dl) (ol := ol) (dr := dr) (ou := ou) (da := da) (eq := eq) (al := al) (fr := frOf us) (tk := tkOf us) (by_ := byOf by_) (ln := ln) (pl := plOf (K + Mo) pl) (X := X) hd
  rw [fr_at us hd] at hfs
  refine Con.of ?_
  refine J.aload_n d_V_fail_0 rfl rfl ?_
  refine J.iload_n d_V_fail_1 rfl rfl ?_
  refine J.v1v (con_V_reqD1 hd) k_V_fail_V_requireDisk d_V_fail_2 rfl rfl rfl ?_
  refine J.aload_n d_V_fail_5 rfl rfl ?_
  refine J.getfield d_V_fail_6 fl_V_25 rfl rfl ?_
  refine J.iload_n d_V_fail_9 rfl rfl ?_
  refine J.v1i hal k_V_fail_D_isAlive d_V_fail_10 rfl rfl rfl ?_
  refine J.if_neN d_V_fail_13 (tgt := 24) (by decide) (by omega) (fun h => ?_) (fun h => ?_)
  · refine J.bipush d_V_fail_24 (v := nI 10) (by decide) ?_
    refine J.aload_n d_V_fail_26 rfl rfl ?_
    refine J.getfield d_V_fail_27 fl_V_25 rfl rfl ?_
    refine J.iload_n d_V_fail_30 rfl rfl ?_
    refine J.v1i hfs k_V_fail_D_freeSlotsOf d_V_fail_31 rfl rfl rfl ?_
    refine J.isubN d_V_fail_34 (by omega) ?_
    rw [show 10 - (10 - ud us d) = ud us d by omega]
    refine J.istore_n d_V_fail_35 rfl (by decide) rfl ?_
    refine J.aload_n d_V_fail_36 rfl rfl ?_
    refine J.getfield d_V_fail_37 fl_V_25 rfl rfl ?_
    refine J.iload_n d_V_fail_40 rfl rfl ?_
    refine J.v1v (con_D_stop hd) k_V_fail_D_stop d_V_fail_41 rfl rfl rfl ?_
    refine J.aload_n d_V_fail_44 rfl rfl ?_
    refine J.getfield d_V_fail_45 fl_V_32 rfl rfl ?_
    refine J.iload_n d_V_fail_48 rfl rfl ?_
    refine J.v1v (con_G_loseDisk hd (pl_lt (Sh := K + Mo) hp)) k_V_fail_G_loseDisk d_V_fail_49 rfl rfl rfl ?_
    refine J.iload_n d_V_fail_52 rfl rfl ?_
    exact J.ireturn d_V_fail_53 rfl (by decide) (by decide)
  · exact absurd h (by decide)
theorem con_V_fail0 (hl : l.stackTraces = false) {x : Int32} (hx : x < 0 ∨ nI 8 ≤ x) : Con l i_V_fail [.ref 0, .int x] (CA K Mo dr dl ou ol da eq al us by_ ln pl X) (.inr ("java/lang/IllegalArgumentException", (CA K Mo dr dl ou ol da eq al us by_ ln pl X))) := by
  refine Con.of ?_
  refine J.aload_n d_V_fail_0 rfl rfl ?_
  refine J.iload_n d_V_fail_1 rfl rfl ?_
  exact J.t1 (con_V_reqD0 hl hx) k_V_fail_V_requireDisk d_V_fail_2 rfl rfl
theorem con_V_fail2 (hl : l.stackTraces = false) {d : Nat} (hd : d < 8) (ha : al d = 0) : Con l i_V_fail [.ref 0, .int (nI d)] (CA K Mo dr dl ou ol da eq al us by_ ln pl X) (.inr ("java/lang/IllegalStateException", (CA K Mo dr dl ou ol da eq al us by_ ln pl X))) := by
  have hal := con_D_isAlive (l := l) (K := K) (Mo := Mo) (dl := dl) (ol := ol) (dr := dr) (ou := ou) (da := da) (eq := eq) (al := al) (fr := frOf us) (tk := tkOf us) (by_ := byOf by_) (ln := ln) (pl := plOf (K + Mo) pl) (X := X) hd (by omega)
  rw [ha] at hal
  refine Con.of ?_
  refine J.aload_n d_V_fail_0 rfl rfl ?_
  refine J.iload_n d_V_fail_1 rfl rfl ?_
  refine J.v1v (con_V_reqD1 hd) k_V_fail_V_requireDisk d_V_fail_2 rfl rfl rfl ?_
  refine J.aload_n d_V_fail_5 rfl rfl ?_
  refine J.getfield d_V_fail_6 fl_V_25 rfl rfl ?_
  refine J.iload_n d_V_fail_9 rfl rfl ?_
  refine J.v1i hal k_V_fail_D_isAlive d_V_fail_10 rfl rfl rfl ?_
  refine J.if_neN d_V_fail_13 (tgt := 24) (by decide) (by omega) (fun h => ?_) (fun h => ?_)
  · exact absurd rfl h
  · exact J.throwNew hl tw_ISE d_V_fail_16 d_V_fail_19 d_V_fail_20 d_V_fail_23 rfl (by decide) (by decide) ⟨by decide, by decide⟩ ⟨by decide, by decide⟩
theorem con_V_renew1 {d : Nat} (hd : d < 8) (ha : al d = 0) (h2 : ∀ i, al i < 2) : Con l i_V_renew [.ref 0, .int (nI d)] (CA K Mo dr dl ou ol da eq al us by_ ln pl X) (.inl (some (.int (nI (cs (up al d 1) 8))), (CA K Mo dr dl ou ol da eq (up al d 1) us by_ ln pl X))) := by
  have hal := con_D_isAlive (l := l) (K := K) (Mo := Mo) (dl := dl) (ol := ol) (dr := dr) (ou := ou) (da := da) (eq := eq) (al := al) (fr := frOf us) (tk := tkOf us) (by_ := byOf by_) (ln := ln) (pl := plOf (K + Mo) pl) (X := X) hd (by omega)
  rw [ha] at hal
  refine Con.of ?_
  refine J.aload_n d_V_renew_0 rfl rfl ?_
  refine J.iload_n d_V_renew_1 rfl rfl ?_
  refine J.v1v (con_V_reqD1 hd) k_V_renew_V_requireDisk d_V_renew_2 rfl rfl rfl ?_
  refine J.aload_n d_V_renew_5 rfl rfl ?_
  refine J.getfield d_V_renew_6 fl_V_25 rfl rfl ?_
  refine J.iload_n d_V_renew_9 rfl rfl ?_
  refine J.v1i hal k_V_renew_D_isAlive d_V_renew_10 rfl rfl rfl ?_
  refine J.if_eqN d_V_renew_13 (tgt := 24) (by decide) (by omega) (fun h => ?_) (fun h => ?_)
  · refine J.aload_n d_V_renew_24 rfl rfl ?_
    refine J.getfield d_V_renew_25 fl_V_25 rfl rfl ?_
    refine J.iload_n d_V_renew_28 rfl rfl ?_
    refine J.v1v (con_D_start hd) k_V_renew_D_start d_V_renew_29 rfl rfl rfl ?_
    refine J.aload_n d_V_renew_32 rfl rfl ?_
    refine J.getfield d_V_renew_33 fl_V_25 rfl rfl ?_
    refine J.v0i (con_D_countAlive (up_lt h2 (by decide))) k_V_renew_D_countAlive d_V_renew_36 rfl rfl rfl ?_
    exact J.ireturn d_V_renew_39 rfl (by decide) (by decide)
  · exact absurd rfl h
theorem con_V_renew0 (hl : l.stackTraces = false) {x : Int32} (hx : x < 0 ∨ nI 8 ≤ x) : Con l i_V_renew [.ref 0, .int x] (CA K Mo dr dl ou ol da eq al us by_ ln pl X) (.inr ("java/lang/IllegalArgumentException", (CA K Mo dr dl ou ol da eq al us by_ ln pl X))) := by
  refine Con.of ?_
  refine J.aload_n d_V_renew_0 rfl rfl ?_
  refine J.iload_n d_V_renew_1 rfl rfl ?_
  exact J.t1 (con_V_reqD0 hl hx) k_V_renew_V_requireDisk d_V_renew_2 rfl rfl
theorem con_V_renew2 (hl : l.stackTraces = false) {d : Nat} (hd : d < 8) (ha : al d = 1) : Con l i_V_renew [.ref 0, .int (nI d)] (CA K Mo dr dl ou ol da eq al us by_ ln pl X) (.inr ("java/lang/IllegalStateException", (CA K Mo dr dl ou ol da eq al us by_ ln pl X))) := by
  have hal := con_D_isAlive (l := l) (K := K) (Mo := Mo) (dl := dl) (ol := ol) (dr := dr) (ou := ou) (da := da) (eq := eq) (al := al) (fr := frOf us) (tk := tkOf us) (by_ := byOf by_) (ln := ln) (pl := plOf (K + Mo) pl) (X := X) hd (by omega)
  rw [ha] at hal
  refine Con.of ?_
  refine J.aload_n d_V_renew_0 rfl rfl ?_
  refine J.iload_n d_V_renew_1 rfl rfl ?_
  refine J.v1v (con_V_reqD1 hd) k_V_renew_V_requireDisk d_V_renew_2 rfl rfl rfl ?_
  refine J.aload_n d_V_renew_5 rfl rfl ?_
  refine J.getfield d_V_renew_6 fl_V_25 rfl rfl ?_
  refine J.iload_n d_V_renew_9 rfl rfl ?_
  refine J.v1i hal k_V_renew_D_isAlive d_V_renew_10 rfl rfl rfl ?_
  refine J.if_eqN d_V_renew_13 (tgt := 24) (by decide) (by omega) (fun h => ?_) (fun h => ?_)
  · exact absurd h (by decide)
  · exact J.throwNew hl tw_ISE d_V_renew_16 d_V_renew_19 d_V_renew_20 d_V_renew_23 rfl (by decide) (by decide) ⟨by decide, by decide⟩ ⟨by decide, by decide⟩
theorem and255 (x : Int32) : x &&& nI 255 = nI (x.toBitVec.toNat % 256) := pk_and x 8 (by decide +kernel)
theorem con_V_stored1 {d s i : Nat} (hd : d < 8) (hs : s < 10) (hi : i < 4) (h2 : ∀ i, us i < 2) (hu : us (10 * d + s) = 1) : Con l i_V_stored [.ref 0, .int (nI d), .int (nI s), .int (nI i)] (CA K Mo dr dl ou ol da eq al us by_ ln pl X) (.inl (some (.int (nI (by_ (4 * (10 * d + s) + i)))), (CA K Mo dr dl ou ol da eq al us by_ ln pl X))) := by
  have hb := con_D_byteAt (l := l) (K := K) (Mo := Mo) (dl := dl) (ol := ol) (dr := dr) (ou := ou) (da := da) (eq := eq) (al := al) (fr := frOf us) (tk := tkOf us) (by_ := byOf by_) (ln := ln) (pl := plOf (K + Mo) pl) (X := X) (q := 16 * d + s) (t := i) (by omega) hi
  rw [by_at by_ hs hi] at hb
  refine Con.of ?_
  refine J.aload_n d_V_stored_0 rfl rfl ?_
  refine J.iload_n d_V_stored_1 rfl rfl ?_
  refine J.iload_n d_V_stored_2 rfl rfl ?_
  refine J.iload_n d_V_stored_3 rfl rfl ?_
  refine J.v3v (con_V_reqB1 hd hs hi h2 hu) k_V_stored_V_requireStoredByte d_V_stored_4 rfl rfl rfl ?_
  refine J.aload_n d_V_stored_7 rfl rfl ?_
  refine J.getfield d_V_stored_8 fl_V_25 rfl rfl ?_
  refine J.iload_n d_V_stored_11 rfl rfl ?_
  refine J.iload_n d_V_stored_12 rfl rfl ?_
  refine J.s2i (con_V_placeAt d s _) k_V_stored_V_placeAt d_V_stored_13 rfl ?_
  refine J.iload_n d_V_stored_16 rfl rfl ?_
  refine J.v2i hb k_V_stored_D_byteAt d_V_stored_17 rfl rfl rfl ?_
  exact J.ireturn d_V_stored_20 rfl (by decide) (by decide)
theorem con_V_stored0 (hl : l.stackTraces = false) {d s i : Int32} (hx : noB d s i) : Con l i_V_stored [.ref 0, .int d, .int s, .int i] (CA K Mo dr dl ou ol da eq al us by_ ln pl X) (.inr ("java/lang/IllegalArgumentException", (CA K Mo dr dl ou ol da eq al us by_ ln pl X))) := by
  refine Con.of ?_
  refine J.aload_n d_V_stored_0 rfl rfl ?_
  refine J.iload_n d_V_stored_1 rfl rfl ?_
  refine J.iload_n d_V_stored_2 rfl rfl ?_
  refine J.iload_n d_V_stored_3 rfl rfl ?_
  exact J.t3 (con_V_reqB0 hl hx) k_V_stored_V_requireStoredByte d_V_stored_4 rfl rfl
theorem con_V_stored2 (hl : l.stackTraces = false) {d s i : Nat} (hd : d < 8) (hs : s < 10) (hi : i < 4) (h2 : ∀ i, us i < 2) (hu : us (10 * d + s) = 0) : Con l i_V_stored [.ref 0, .int (nI d), .int (nI s), .int (nI i)] (CA K Mo dr dl ou ol da eq al us by_ ln pl X) (.inr ("java/util/NoSuchElementException", (CA K Mo dr dl ou ol da eq al us by_ ln pl X))) := by
  refine Con.of ?_
  refine J.aload_n d_V_stored_0 rfl rfl ?_
  refine J.iload_n d_V_stored_1 rfl rfl ?_
  refine J.iload_n d_V_stored_2 rfl rfl ?_
  refine J.iload_n d_V_stored_3 rfl rfl ?_
  exact J.t3 (con_V_reqB2 hl hd hs hi h2 hu) k_V_stored_V_requireStoredByte d_V_stored_4 rfl rfl
theorem con_V_harm1 {d s i : Nat} {x : Int32} (hd : d < 8) (hs : s < 10) (hi : i < 4) (h2 : ∀ i, us i < 2) (hu : us (10 * d + s) = 1) : Con l i_V_harm [.ref 0, .int (nI d), .int (nI s), .int (nI i), .int x] (CA K Mo dr dl ou ol da eq al us by_ ln pl X) (.inl (some (.int (nI (by_ (4 * (10 * d + s) + i) ^^^ (x.toBitVec.toNat % 256)))), (CA K Mo dr dl ou ol da eq al us (up by_ (4 * (10 * d + s) + i) (by_ (4 * (10 * d + s) + i) ^^^ (x.toBitVec.toNat % 256))) ln pl X))) := by
  have hb := con_D_byteAt (l := l) (K := K) (Mo := Mo) (dl := dl) (ol := ol) (dr := dr) (ou := ou) (da := da) (eq := eq) (al := al) (fr := frOf us) (tk := tkOf us) (by_ := byOf by_) (ln := ln) (pl := plOf (K + Mo) pl) (X := X) (q := 16 * d + s) (t := i) (by omega) hi
  rw [by_at by_ hs hi] at hb
  have hsb := con_D_setByte (l := l) (K := K) (Mo := Mo) (dl := dl) (ol := ol) (dr := dr) (ou := ou) (da := da) (eq := eq) (al := al) (fr := frOf us) (tk := tkOf us) (by_ := byOf by_) (ln := ln) (pl := plOf (K + Mo) pl) (X := X) (q := 16 * d + s) (t := i) (v := by_ (4 * (10 * d + s) + i) ^^^ (x.toBitVec.toNat % 256)) (by omega) hi
  rw [by_up by_ hs hi] at hsb
  refine Con.of ?_
  refine J.aload_n d_V_harm_0 rfl rfl ?_
  refine J.iload_n d_V_harm_1 rfl rfl ?_
  refine J.iload_n d_V_harm_2 rfl rfl ?_
  refine J.iload_n d_V_harm_3 rfl rfl ?_
  refine J.v3v (con_V_reqB1 hd hs hi h2 hu) k_V_harm_V_requireStoredByte d_V_harm_4 rfl rfl rfl ?_
  refine J.iload_n d_V_harm_7 rfl rfl ?_
  refine J.iload_n d_V_harm_8 rfl rfl ?_
  refine J.s2i (con_V_placeAt d s _) k_V_harm_V_placeAt d_V_harm_9 rfl ?_
  refine J.istore d_V_harm_12 (by decide) rfl ?_
  refine J.aload_n d_V_harm_14 rfl rfl ?_
  refine J.getfield d_V_harm_15 fl_V_25 rfl rfl ?_
  refine J.iload d_V_harm_18 rfl ?_
  refine J.iload_n d_V_harm_20 rfl rfl ?_
  refine J.v2i hb k_V_harm_D_byteAt d_V_harm_21 rfl rfl rfl ?_
  refine J.iload d_V_harm_24 rfl ?_
  refine J.sipush d_V_harm_26 (v := nI 255) (by decide) ?_
  refine J.iand d_V_harm_29 ?_
  rw [and255]
  refine J.ixorN d_V_harm_30 ?_
  refine J.istore d_V_harm_31 (by decide) rfl ?_
  refine J.aload_n d_V_harm_33 rfl rfl ?_
  refine J.getfield d_V_harm_34 fl_V_25 rfl rfl ?_
  refine J.iload d_V_harm_37 rfl ?_
  refine J.iload_n d_V_harm_39 rfl rfl ?_
  refine J.iload d_V_harm_40 rfl ?_
  refine J.v3v hsb k_V_harm_D_setByte d_V_harm_42 rfl rfl rfl ?_
  refine J.iload d_V_harm_45 rfl ?_
  exact J.ireturn d_V_harm_47 rfl (by decide) (by decide)
theorem con_V_harm0 (hl : l.stackTraces = false) {d s i x : Int32} (hx : noB d s i) : Con l i_V_harm [.ref 0, .int d, .int s, .int i, .int x] (CA K Mo dr dl ou ol da eq al us by_ ln pl X) (.inr ("java/lang/IllegalArgumentException", (CA K Mo dr dl ou ol da eq al us by_ ln pl X))) := by
  refine Con.of ?_
  refine J.aload_n d_V_harm_0 rfl rfl ?_
  refine J.iload_n d_V_harm_1 rfl rfl ?_
  refine J.iload_n d_V_harm_2 rfl rfl ?_
  refine J.iload_n d_V_harm_3 rfl rfl ?_
  exact J.t3 (con_V_reqB0 hl hx) k_V_harm_V_requireStoredByte d_V_harm_4 rfl rfl
theorem con_V_harm2 (hl : l.stackTraces = false) {d s i : Nat} {x : Int32} (hd : d < 8) (hs : s < 10) (hi : i < 4) (h2 : ∀ i, us i < 2) (hu : us (10 * d + s) = 0) : Con l i_V_harm [.ref 0, .int (nI d), .int (nI s), .int (nI i), .int x] (CA K Mo dr dl ou ol da eq al us by_ ln pl X) (.inr ("java/util/NoSuchElementException", (CA K Mo dr dl ou ol da eq al us by_ ln pl X))) := by
  refine Con.of ?_
  refine J.aload_n d_V_harm_0 rfl rfl ?_
  refine J.iload_n d_V_harm_1 rfl rfl ?_
  refine J.iload_n d_V_harm_2 rfl rfl ?_
  refine J.iload_n d_V_harm_3 rfl rfl ?_
  exact J.t3 (con_V_reqB2 hl hd hs hi h2 hu) k_V_harm_V_requireStoredByte d_V_harm_4 rfl rfl
theorem con_V_where1 {o s h : Nat} (hK : 0 < K) (hK4 : K ≤ 4) (hS : K + Mo ≤ 7) (ho : o < 6) (hl : 0 < ln o) (hln : ln o ≤ 32) (hs : s < ns K (ln o)) (hh : h < K + Mo) : Con l i_V_where [.ref 0, .int (nI o), .int (nI s), .int (nI h)] (CA K Mo dr dl ou ol da eq al us by_ ln pl X) (.inl (some (.int (pI (tr (pl (56 * o + 7 * s + h))))), (CA K Mo dr dl ou ol da eq al us by_ ln pl X))) := by
  have hn8 := ns_le hK hln
  have hs8 : s < 8 := by omega
  have hix := ix56 hS hs8 hh
  have hc := con_G_placeOf (l := l) (K := K) (Mo := Mo) (dl := dl) (ol := ol) (dr := dr) (ou := ou) (da := da) (eq := eq) (al := al) (fr := frOf us) (tk := tkOf us) (by_ := byOf by_) (ln := ln) (pl := plOf (K + Mo) pl) (X := X) (r := o * 56 + s * (K + Mo)) (h := h) (by omega)
  rw [pl_at pl hS hs8 hh] at hc
  refine Con.of ?_
  refine J.aload_n d_V_where_0 rfl rfl ?_
  refine J.iload_n d_V_where_1 rfl rfl ?_
  refine J.v1v (con_V_reqO1 ho hl hln) k_V_where_V_requireObject d_V_where_2 rfl rfl rfl ?_
  refine J.iload_n d_V_where_5 rfl rfl ?_
  refine J.if_ltN d_V_where_6 (tgt := 36) (by decide) (by omega) (fun _ => ?_)
  refine J.iload_n d_V_where_9 rfl rfl ?_
  refine J.aload_n d_V_where_10 rfl rfl ?_
  refine J.getfield d_V_where_11 fl_V_32 rfl rfl ?_
  refine J.iload_n d_V_where_14 rfl rfl ?_
  refine J.v1i (con_G_stripesOf ho hK hK4 (by omega)) k_V_where_G_stripesOf d_V_where_15 rfl rfl rfl ?_
  refine J.icmp_geN d_V_where_18 (tgt := 36) (by decide) (by omega) (by omega) (fun h1 => ?_) (fun h1 => ?_)
  · omega
  refine J.iload_n d_V_where_21 rfl rfl ?_
  refine J.if_ltN d_V_where_22 (tgt := 36) (by decide) (by omega) (fun _ => ?_)
  refine J.iload_n d_V_where_25 rfl rfl ?_
  refine J.aload_n d_V_where_26 rfl rfl ?_
  refine J.getfield d_V_where_27 fl_V_18 rfl rfl ?_
  refine J.getfield d_V_where_30 fl_V_142 rfl rfl ?_
  refine J.icmp_ltN d_V_where_33 (tgt := 44) (by decide) (by omega) (by omega) (fun h2 => ?_) (fun h2 => ?_)
  · refine J.aload_n d_V_where_44 rfl rfl ?_
    refine J.getfield d_V_where_45 fl_V_32 rfl rfl ?_
    refine J.aload_n d_V_where_48 rfl rfl ?_
    refine J.getfield d_V_where_49 fl_V_32 rfl rfl ?_
    refine J.iload_n d_V_where_52 rfl rfl ?_
    refine J.iload_n d_V_where_53 rfl rfl ?_
    refine J.v2i con_G_rowOf k_V_where_G_rowOf d_V_where_54 rfl rfl rfl ?_
    refine J.iload_n d_V_where_57 rfl rfl ?_
    refine J.v2i hc k_V_where_G_placeOf d_V_where_58 rfl rfl rfl ?_
    exact J.ireturn d_V_where_61 rfl (by decide) (by decide)
  · omega
theorem con_V_where0 (hl : l.stackTraces = false) {x y z : Int32} (hx : noO ln x) : Con l i_V_where [.ref 0, .int x, .int y, .int z] (CA K Mo dr dl ou ol da eq al us by_ ln pl X) (.inr ("java/util/NoSuchElementException", (CA K Mo dr dl ou ol da eq al us by_ ln pl X))) := by
  refine Con.of ?_
  refine J.aload_n d_V_where_0 rfl rfl ?_
  refine J.iload_n d_V_where_1 rfl rfl ?_
  exact J.t1 (con_V_reqO0 hl hx) k_V_where_V_requireObject d_V_where_2 rfl rfl
theorem con_V_where2 (hl0 : l.stackTraces = false) {o : Nat} {y z : Int32} (hK : 0 < K) (hK4 : K ≤ 4) (ho : o < 6) (hl : 0 < ln o) (hln : ln o ≤ 32) (hx : y < 0 ∨ nI (ns K (ln o)) ≤ y ∨ z < 0 ∨ nI (K + Mo) ≤ z) : Con l i_V_where [.ref 0, .int (nI o), .int y, .int z] (CA K Mo dr dl ou ol da eq al us by_ ln pl X) (.inr ("java/lang/IndexOutOfBoundsException", (CA K Mo dr dl ou ol da eq al us by_ ln pl X))) := by
  have thr : ∀ {lv} {k n}, k + 1 ≤ 2 → n + 6 ≤ 12 → J l i_V_where 36 lv [] (CA K Mo dr dl ou ol da eq al us by_ ln pl X) k n (.inr ("java/lang/IndexOutOfBoundsException", (CA K Mo dr dl ou ol da eq al us by_ ln pl X))) := fun h1 h2 => J.throwNew hl0 tw_IOB d_V_where_36 d_V_where_39 d_V_where_40 d_V_where_43 rfl (by decide) (by decide) ⟨h1, by decide⟩ ⟨h2, by decide⟩
  refine Con.of ?_
  refine J.aload_n d_V_where_0 rfl rfl ?_
  refine J.iload_n d_V_where_1 rfl rfl ?_
  refine J.v1v (con_V_reqO1 ho hl hln) k_V_where_V_requireObject d_V_where_2 rfl rfl rfl ?_
  refine J.iload_n d_V_where_5 rfl rfl ?_
  refine J.if_lt d_V_where_6 (tgt := 36) (by decide) (fun _ => thr (by decide) (by decide)) (fun h1 => ?_)
  refine J.iload_n d_V_where_9 rfl rfl ?_
  refine J.aload_n d_V_where_10 rfl rfl ?_
  refine J.getfield d_V_where_11 fl_V_32 rfl rfl ?_
  refine J.iload_n d_V_where_14 rfl rfl ?_
  refine J.v1i (con_G_stripesOf ho hK hK4 (by omega)) k_V_where_G_stripesOf d_V_where_15 rfl rfl rfl ?_
  refine J.icmp_ge d_V_where_18 (tgt := 36) (by decide) (fun _ => thr (by decide) (by decide)) (fun h2 => ?_)
  refine J.iload_n d_V_where_21 rfl rfl ?_
  refine J.if_lt d_V_where_22 (tgt := 36) (by decide) (fun _ => thr (by decide) (by decide)) (fun h3 => ?_)
  refine J.iload_n d_V_where_25 rfl rfl ?_
  refine J.aload_n d_V_where_26 rfl rfl ?_
  refine J.getfield d_V_where_27 fl_V_18 rfl rfl ?_
  refine J.getfield d_V_where_30 fl_V_142 rfl rfl ?_
  refine J.icmp_lt d_V_where_33 (tgt := 44) (by decide) (fun h4 => ?_) (fun _ => thr (by decide) (by decide))
  exfalso
  rcases hx with w | w | w | w
  · exact h1 w
  · exact h2 w
  · exact h3 w
  · exact absurd h4 (Int32.not_lt.mpr w)
theorem con_V_length1 {o : Nat} (ho : o < 6) (hl : 0 < ln o) (hln : ln o ≤ 32) : Con l i_V_length [.ref 0, .int (nI o)] (CA K Mo dr dl ou ol da eq al us by_ ln pl X) (.inl (some (.int (nI (ln o))), (CA K Mo dr dl ou ol da eq al us by_ ln pl X))) := by
  have hh := con_G_holds (l := l) (K := K) (Mo := Mo) (dl := dl) (ol := ol) (dr := dr) (ou := ou) (da := da) (eq := eq) (al := al) (fr := frOf us) (tk := tkOf us) (by_ := byOf by_) (ln := ln) (pl := plOf (K + Mo) pl) (X := X) ho (by omega)
  rw [if_pos hl] at hh
  refine Con.of ?_
  refine J.iload_n d_V_length_0 rfl rfl ?_
  refine J.s1i (con_V_isObj1 ho _) k_V_length_V_isObjectNumber d_V_length_1 rfl ?_
  refine J.if_eqN d_V_length_4 (tgt := 29) (by decide) (by omega) (fun h => ?_) (fun h => ?_)
  · exact absurd h (by decide)
  refine J.aload_n d_V_length_7 rfl rfl ?_
  refine J.getfield d_V_length_8 fl_V_32 rfl rfl ?_
  refine J.iload_n d_V_length_11 rfl rfl ?_
  refine J.v1i hh k_V_length_G_holds d_V_length_12 rfl rfl rfl ?_
  refine J.if_eqN d_V_length_15 (tgt := 29) (by decide) (by omega) (fun h => ?_) (fun h => ?_)
  · exact absurd h (by decide)
  refine J.aload_n d_V_length_18 rfl rfl ?_
  refine J.getfield d_V_length_19 fl_V_32 rfl rfl ?_
  refine J.iload_n d_V_length_22 rfl rfl ?_
  refine J.v1i (con_G_lengthOf ho) k_V_length_G_lengthOf d_V_length_23 rfl rfl rfl ?_
  refine J.goto d_V_length_26 (tgt := 30) (by decide) ?_
  exact J.ireturn d_V_length_30 rfl (by decide) (by decide)
theorem con_V_length0 {x : Int32} (hx : noO ln x) : Con l i_V_length [.ref 0, .int x] (CA K Mo dr dl ou ol da eq al us by_ ln pl X) (.inl (some (.int (pI 0)), (CA K Mo dr dl ou ol da eq al us by_ ln pl X))) := by
  have out : (x < 0 ∨ nI 6 ≤ x) → Con l i_V_length [.ref 0, .int x] (CA K Mo dr dl ou ol da eq al us by_ ln pl X) (.inl (some (.int (pI 0)), (CA K Mo dr dl ou ol da eq al us by_ ln pl X))) := by
    intro hx
    refine Con.of ?_
    refine J.iload_n d_V_length_0 rfl rfl ?_
    refine J.s1i (con_V_isObj0 hx _) k_V_length_V_isObjectNumber d_V_length_1 rfl ?_
    refine J.if_eqN d_V_length_4 (tgt := 29) (by decide) (by omega) (fun h => ?_) (fun h => ?_)
    · refine J.iconst d_V_length_29 (v := pI 0) (by decide) ?_
      exact J.ireturn d_V_length_30 rfl (by decide) (by decide)
    · exact absurd rfl h
  rcases hx with hx | hx | ⟨o, ho, rfl, h0⟩
  · exact out (Or.inl hx)
  · exact out (Or.inr hx)
  · have hh := con_G_holds (l := l) (K := K) (Mo := Mo) (dl := dl) (ol := ol) (dr := dr) (ou := ou) (da := da) (eq := eq) (al := al) (fr := frOf us) (tk := tkOf us) (by_ := byOf by_) (ln := ln) (pl := plOf (K + Mo) pl) (X := X) ho (by omega)
    rw [if_neg (by omega)] at hh
    refine Con.of ?_
    refine J.iload_n d_V_length_0 rfl rfl ?_
    refine J.s1i (con_V_isObj1 ho _) k_V_length_V_isObjectNumber d_V_length_1 rfl ?_
    refine J.if_eqN d_V_length_4 (tgt := 29) (by decide) (by omega) (fun h => ?_) (fun h => ?_)
    · exact absurd h (by decide)
    refine J.aload_n d_V_length_7 rfl rfl ?_
    refine J.getfield d_V_length_8 fl_V_32 rfl rfl ?_
    refine J.iload_n d_V_length_11 rfl rfl ?_
    refine J.v1i hh k_V_length_G_holds d_V_length_12 rfl rfl rfl ?_
    refine J.if_eqN d_V_length_15 (tgt := 29) (by decide) (by omega) (fun h => ?_) (fun h => ?_)
    · refine J.iconst d_V_length_29 (v := pI 0) (by decide) ?_
      exact J.ireturn d_V_length_30 rfl (by decide) (by decide)
    · exact absurd rfl h
theorem con_V_room1 {d : Nat} (hd : d < 8) (ha : al d = 1) : Con l i_V_room [.ref 0, .int (nI d)] (CA K Mo dr dl ou ol da eq al us by_ ln pl X) (.inl (some (.int (nI (10 - ud us d))), (CA K Mo dr dl ou ol da eq al us by_ ln pl X))) := by
  have hal := con_D_isAlive (l := l) (K := K) (Mo := Mo) (dl := dl) (ol := ol) (dr := dr) (ou := ou) (da := da) (eq := eq) (al := al) (fr := frOf us) (tk := tkOf us) (by_ := byOf by_) (ln := ln) (pl := plOf (K + Mo) pl) (X := X) hd (by omega)
  rw [ha] at hal
  have hfs := con_D_freeSlotsOf (l := l) (K := K) (Mo := Mo) (dl := dl) (ol := ol) (dr := dr) (ou := ou) (da := da) (eq := eq) (al := al) (fr := frOf us) (tk := tkOf us) (by_ := byOf by_) (ln := ln) (pl := plOf (K + Mo) pl) (X := X) hd
  rw [fr_at us hd] at hfs
  refine Con.of ?_
  refine J.iload_n d_V_room_0 rfl rfl ?_
  refine J.s1i (con_V_isDisk1 hd _) k_V_room_V_isDiskNumber d_V_room_1 rfl ?_
  refine J.if_eqN d_V_room_4 (tgt := 29) (by decide) (by omega) (fun h => ?_) (fun h => ?_)
  · exact absurd h (by decide)
  refine J.aload_n d_V_room_7 rfl rfl ?_
  refine J.getfield d_V_room_8 fl_V_25 rfl rfl ?_
  refine J.iload_n d_V_room_11 rfl rfl ?_
  refine J.v1i hal k_V_room_D_isAlive d_V_room_12 rfl rfl rfl ?_
  refine J.if_eqN d_V_room_15 (tgt := 29) (by decide) (by omega) (fun h => ?_) (fun h => ?_)
  · exact absurd h (by decide)
  refine J.aload_n d_V_room_18 rfl rfl ?_
  refine J.getfield d_V_room_19 fl_V_25 rfl rfl ?_
  refine J.iload_n d_V_room_22 rfl rfl ?_
  refine J.v1i hfs k_V_room_D_freeSlotsOf d_V_room_23 rfl rfl rfl ?_
  refine J.goto d_V_room_26 (tgt := 30) (by decide) ?_
  exact J.ireturn d_V_room_30 rfl (by decide) (by decide)
theorem con_V_room0 {x : Int32} (hx : x < 0 ∨ nI 8 ≤ x ∨ ∃ d, d < 8 ∧ x = nI d ∧ al d = 0) : Con l i_V_room [.ref 0, .int x] (CA K Mo dr dl ou ol da eq al us by_ ln pl X) (.inl (some (.int (pI 0)), (CA K Mo dr dl ou ol da eq al us by_ ln pl X))) := by
  have out : (x < 0 ∨ nI 8 ≤ x) → Con l i_V_room [.ref 0, .int x] (CA K Mo dr dl ou ol da eq al us by_ ln pl X) (.inl (some (.int (pI 0)), (CA K Mo dr dl ou ol da eq al us by_ ln pl X))) := by
    intro hx
    refine Con.of ?_
    refine J.iload_n d_V_room_0 rfl rfl ?_
    refine J.s1i (con_V_isDisk0 hx _) k_V_room_V_isDiskNumber d_V_room_1 rfl ?_
    refine J.if_eqN d_V_room_4 (tgt := 29) (by decide) (by omega) (fun h => ?_) (fun h => ?_)
    · refine J.iconst d_V_room_29 (v := pI 0) (by decide) ?_
      exact J.ireturn d_V_room_30 rfl (by decide) (by decide)
    · exact absurd rfl h
  rcases hx with hx | hx | ⟨d, hd, rfl, ha⟩
  · exact out (Or.inl hx)
  · exact out (Or.inr hx)
  · have hal := con_D_isAlive (l := l) (K := K) (Mo := Mo) (dl := dl) (ol := ol) (dr := dr) (ou := ou) (da := da) (eq := eq) (al := al) (fr := frOf us) (tk := tkOf us) (by_ := byOf by_) (ln := ln) (pl := plOf (K + Mo) pl) (X := X) hd (by omega)
    rw [ha] at hal
    refine Con.of ?_
    refine J.iload_n d_V_room_0 rfl rfl ?_
    refine J.s1i (con_V_isDisk1 hd _) k_V_room_V_isDiskNumber d_V_room_1 rfl ?_
    refine J.if_eqN d_V_room_4 (tgt := 29) (by decide) (by omega) (fun h => ?_) (fun h => ?_)
    · exact absurd h (by decide)
    refine J.aload_n d_V_room_7 rfl rfl ?_
    refine J.getfield d_V_room_8 fl_V_25 rfl rfl ?_
    refine J.iload_n d_V_room_11 rfl rfl ?_
    refine J.v1i hal k_V_room_D_isAlive d_V_room_12 rfl rfl rfl ?_
    refine J.if_eqN d_V_room_15 (tgt := 29) (by decide) (by omega) (fun h => ?_) (fun h => ?_)
    · refine J.iconst d_V_room_29 (v := pI 0) (by decide) ?_
      exact J.ireturn d_V_room_30 rfl (by decide) (by decide)
    · exact absurd rfl h
end PUB
end
section
/-! product, store, get, check of the class -/
section PUB2
variable {l : Launch} {K Mo dl ol : Nat} {dr ou da eq al us by_ ln pl : Nat → Nat} {X : List va_E}
theorem con_V_prodT {a b : Nat} (ha : a < 256) (hb : b < 256) : Con l i_V_product [.ref 0, .int (nI a), .int (nI b)] (CA K Mo dr dl ou ol da eq al us by_ ln pl X) (.inl (some (.int (nI (gm a b))), (CA K Mo dr dl ou ol da eq al us by_ ln pl X))) := by
  refine Con.of ?_
  refine J.iload_n d_V_product_0 rfl rfl ?_
  refine J.s1i (con_V_isByte1 ha _) k_V_product_V_isByte d_V_product_1 rfl ?_
  refine J.if_eqN d_V_product_4 (tgt := 19) (by decide) (by omega) (fun h => ?_) (fun h => ?_)
  · exact absurd h (by decide)
  refine J.iload_n d_V_product_7 rfl rfl ?_
  refine J.s1i (con_V_isByte1 hb _) k_V_product_V_isByte d_V_product_8 rfl ?_
  refine J.if_neN d_V_product_11 (tgt := 27) (by decide) (by omega) (fun h => ?_) (fun h => ?_)
  · refine J.iload_n d_V_product_27 rfl rfl ?_
    refine J.iconst d_V_product_28 (v := pI 0) (by decide) ?_
    refine J.icmp_eqK d_V_product_29 (tgt := 38) (by decide) (by omega) ?_
    refine J.iload_n d_V_product_32 rfl rfl ?_
    refine J.iload_n d_V_product_33 rfl rfl ?_
    refine J.s2i (con_V_times ha hb _) k_V_product_V_times d_V_product_34 rfl ?_
    exact J.ireturn d_V_product_37 rfl (by decide) (by decide)
  · exact absurd h (by decide)
theorem m1_neg : pI 0 < 0 := by decide +kernel
theorem con_V_prodI {a : Nat} (ha : a < 256) (h0 : 0 < a) : Con l i_V_product [.ref 0, .int (nI a), .int (pI 0)] (CA K Mo dr dl ou ol da eq al us by_ ln pl X) (.inl (some (.int (nI (gi a))), (CA K Mo dr dl ou ol da eq al us by_ ln pl X))) := by
  refine Con.of ?_
  refine J.iload_n d_V_product_0 rfl rfl ?_
  refine J.s1i (con_V_isByte1 ha _) k_V_product_V_isByte d_V_product_1 rfl ?_
  refine J.if_eqN d_V_product_4 (tgt := 19) (by decide) (by omega) (fun h => ?_) (fun h => ?_)
  · exact absurd h (by decide)
  refine J.iload_n d_V_product_7 rfl rfl ?_
  refine J.s1i (con_V_isByte0 (Or.inl m1_neg) _) k_V_product_V_isByte d_V_product_8 rfl ?_
  refine J.if_neN d_V_product_11 (tgt := 27) (by decide) (by omega) (fun h => ?_) (fun h => ?_)
  · exact absurd rfl h
  refine J.iload_n d_V_product_14 rfl rfl ?_
  refine J.iconst d_V_product_15 (v := pI 0) (by decide) ?_
  refine J.icmp_eqP d_V_product_16 (tgt := 27) (by decide) (by decide) (by decide) (fun _ => ?_) (fun h => absurd rfl h)
  refine J.iload_n d_V_product_27 rfl rfl ?_
  refine J.iconst d_V_product_28 (v := pI 0) (by decide) ?_
  refine J.icmp_eqP d_V_product_29 (tgt := 38) (by decide) (by decide) (by decide) (fun _ => ?_) (fun h => absurd rfl h)
  refine J.iload_n d_V_product_38 rfl rfl ?_
  refine J.if_neN d_V_product_39 (tgt := 50) (by decide) (by omega) (fun h => ?_) (fun h => ?_)
  · refine J.iload_n d_V_product_50 rfl rfl ?_
    refine J.s1i (con_V_inverse ha _) k_V_product_V_inverse d_V_product_51 rfl ?_
    exact J.ireturn d_V_product_54 rfl (by decide) (by decide)
  · omega
theorem con_V_prodZ (hl : l.stackTraces = false) : Con l i_V_product [.ref 0, .int (nI 0), .int (pI 0)] (CA K Mo dr dl ou ol da eq al us by_ ln pl X) (.inr ("java/lang/ArithmeticException", (CA K Mo dr dl ou ol da eq al us by_ ln pl X))) := by
  refine Con.of ?_
  refine J.iload_n d_V_product_0 rfl rfl ?_
  refine J.s1i (con_V_isByte1 (by decide) _) k_V_product_V_isByte d_V_product_1 rfl ?_
  refine J.if_eqN d_V_product_4 (tgt := 19) (by decide) (by omega) (fun h => ?_) (fun h => ?_)
  · exact absurd h (by decide)
  refine J.iload_n d_V_product_7 rfl rfl ?_
  refine J.s1i (con_V_isByte0 (Or.inl m1_neg) _) k_V_product_V_isByte d_V_product_8 rfl ?_
  refine J.if_neN d_V_product_11 (tgt := 27) (by decide) (by omega) (fun h => ?_) (fun h => ?_)
  · exact absurd rfl h
  refine J.iload_n d_V_product_14 rfl rfl ?_
  refine J.iconst d_V_product_15 (v := pI 0) (by decide) ?_
  refine J.icmp_eqP d_V_product_16 (tgt := 27) (by decide) (by decide) (by decide) (fun _ => ?_) (fun h => absurd rfl h)
  refine J.iload_n d_V_product_27 rfl rfl ?_
  refine J.iconst d_V_product_28 (v := pI 0) (by decide) ?_
  refine J.icmp_eqP d_V_product_29 (tgt := 38) (by decide) (by decide) (by decide) (fun _ => ?_) (fun h => absurd rfl h)
  refine J.iload_n d_V_product_38 rfl rfl ?_
  refine J.if_neN d_V_product_39 (tgt := 50) (by decide) (by omega) (fun h => ?_) (fun h => ?_)
  · exact absurd rfl h
  · exact J.throwNew hl tw_ARE d_V_product_42 d_V_product_45 d_V_product_46 d_V_product_49 rfl (by decide) (by decide) ⟨by decide, by decide⟩ ⟨by decide, by decide⟩
/-- no byte, or no byte and not -1 -/
def noP (a b : Int32) : Prop := (a < 0 ∨ nI 256 ≤ a) ∨ ((∃ a', a' < 256 ∧ a = nI a') ∧ (b < 0 ∨ nI 256 ≤ b) ∧ b ≠ pI 0)
theorem con_V_prod0 (hl : l.stackTraces = false) {a b : Int32} (hx : noP a b) : Con l i_V_product [.ref 0, .int a, .int b] (CA K Mo dr dl ou ol da eq al us by_ ln pl X) (.inr ("java/lang/IllegalArgumentException", (CA K Mo dr dl ou ol da eq al us by_ ln pl X))) := by
  have thr : ∀ {lv}, J l i_V_product 19 lv [] (CA K Mo dr dl ou ol da eq al us by_ ln pl X) 0 0 (.inr ("java/lang/IllegalArgumentException", (CA K Mo dr dl ou ol da eq al us by_ ln pl X))) := J.throwNew hl tw_IAE d_V_product_19 d_V_product_22 d_V_product_23 d_V_product_26 rfl (by decide) (by decide) ⟨by decide, by decide⟩ ⟨by decide, by decide⟩
  rcases hx with hx | ⟨⟨a', ha, rfl⟩, hb, hne⟩
  · refine Con.of ?_
    refine J.iload_n d_V_product_0 rfl rfl ?_
    refine J.s1i (con_V_isByte0 hx _) k_V_product_V_isByte d_V_product_1 rfl ?_
    refine J.if_eqN d_V_product_4 (tgt := 19) (by decide) (by omega) (fun h => ?_) (fun h => ?_)
    · exact thr
    · exact absurd rfl h
  · refine Con.of ?_
    refine J.iload_n d_V_product_0 rfl rfl ?_
    refine J.s1i (con_V_isByte1 ha _) k_V_product_V_isByte d_V_product_1 rfl ?_
    refine J.if_eqN d_V_product_4 (tgt := 19) (by decide) (by omega) (fun h => ?_) (fun h => ?_)
    · exact absurd h (by decide)
    refine J.iload_n d_V_product_7 rfl rfl ?_
    refine J.s1i (con_V_isByte0 hb _) k_V_product_V_isByte d_V_product_8 rfl ?_
    refine J.if_neN d_V_product_11 (tgt := 27) (by decide) (by omega) (fun h => ?_) (fun h => ?_)
    · exact absurd rfl h
    refine J.iload_n d_V_product_14 rfl rfl ?_
    refine J.iconst d_V_product_15 (v := pI 0) (by decide) ?_
    refine J.icmp_eq d_V_product_16 (tgt := 27) (by decide) (fun h => absurd h hne) (fun _ => thr)
/-- nothing can be stored there -/
def noS (ln : Nat → Nat) (dl : Nat) (x : Int32) : Prop := (x < 0 ∨ nI 6 ≤ x) ∨ ∃ o, o < 6 ∧ x = nI o ∧ (0 < ln o ∨ dl = 0)
theorem con_V_store0 (hl : l.stackTraces = false) {x : Int32} (hln : ∀ o, ln o ≤ 32) (hdl : dl ≤ 32) (hx : noS ln dl x) : Con l i_V_store [.ref 0, .int x] (CA K Mo dr dl ou ol da eq al us by_ ln pl X) (.inr ("java/lang/IllegalArgumentException", (CA K Mo dr dl ou ol da eq al us by_ ln pl X))) := by
  have thr : ∀ {lv}, J l i_V_store 25 lv [] (CA K Mo dr dl ou ol da eq al us by_ ln pl X) 0 0 (.inr ("java/lang/IllegalArgumentException", (CA K Mo dr dl ou ol da eq al us by_ ln pl X))) := J.throwNew hl tw_IAE d_V_store_25 d_V_store_28 d_V_store_29 d_V_store_32 rfl (by decide) (by decide) ⟨by decide, by decide⟩ ⟨by decide, by decide⟩
  rcases hx with hx | ⟨o, ho, rfl, h0⟩
  · refine Con.of ?_
    refine J.iload_n d_V_store_0 rfl rfl ?_
    refine J.s1i (con_V_isObj0 hx _) k_V_store_V_isObjectNumber d_V_store_1 rfl ?_
    refine J.if_eqN d_V_store_4 (tgt := 25) (by decide) (by omega) (fun h => ?_) (fun h => ?_)
    · exact thr
    · exact absurd rfl h
  · have hh := con_G_holds (l := l) (K := K) (Mo := Mo) (dl := dl) (ol := ol) (dr := dr) (ou := ou) (da := da) (eq := eq) (al := al) (fr := frOf us) (tk := tkOf us) (by_ := byOf by_) (ln := ln) (pl := plOf (K + Mo) pl) (X := X) ho (by have := hln o; omega)
    refine Con.of ?_
    refine J.iload_n d_V_store_0 rfl rfl ?_
    refine J.s1i (con_V_isObj1 ho _) k_V_store_V_isObjectNumber d_V_store_1 rfl ?_
    refine J.if_eqN d_V_store_4 (tgt := 25) (by decide) (by omega) (fun h => ?_) (fun h => ?_)
    · exact absurd h (by decide)
    refine J.aload_n d_V_store_7 rfl rfl ?_
    refine J.getfield d_V_store_8 fl_V_32 rfl rfl ?_
    refine J.iload_n d_V_store_11 rfl rfl ?_
    refine J.v1i hh k_V_store_G_holds d_V_store_12 rfl rfl rfl ?_
    by_cases hz : 0 < ln o
    · rw [if_pos hz]
      refine J.if_neN d_V_store_15 (tgt := 25) (by decide) (by omega) (fun h => ?_) (fun h => ?_)
      · exact thr
      · exact absurd h (by decide)
    · rw [if_neg hz]
      refine J.if_neN d_V_store_15 (tgt := 25) (by decide) (by omega) (fun h => ?_) (fun h => ?_)
      · exact absurd rfl h
      refine J.aload_n d_V_store_18 rfl rfl ?_
      refine J.getfield d_V_store_19 fl_V_40 rfl rfl ?_
      refine J.if_neN d_V_store_22 (tgt := 33) (by decide) (by omega) (fun h2 => ?_) (fun h2 => ?_)
      · exact absurd (h0.resolve_left hz) h2
      · exact thr
/-- the draft laid for object o -/
def pd (K Mo : Nat) (dr : Nat → Nat) (dl : Nat) (al : Nat → Nat) (o : Nat) (da us by_ pl : Nat → Nat) : Nat × (Nat → Nat) × U3 := pdS K dr dl al o (K + Mo) da (us, by_, pl) (ns K dl)
theorem up_at (ln : Nat → Nat) (o v : Nat) : up ln o v o = v := up_self ln o v
theorem pdCon {o : Nat} (hx : okU (us, by_, pl)) (hK : 0 < K) (hK4 : K ≤ 4) (hM : Mo ≤ 3) (ho : o < 6) (ha : ∀ i, al i < 2) (hda : ∀ i, da i < 256) (hr : ∀ i, dr i < 256) (hdl : dl ≤ 32) : Con l i_V_placeDraft [.ref 0, .int (nI o)] (CA K Mo dr dl ou ol da eq al us by_ (up ln o dl) pl X)
      (.inl (some (.int (nI (if (pd K Mo dr dl al o da us by_ pl).1 = 0 then 0 else 1))), (CA K Mo dr dl ou ol ((pd K Mo dr dl al o da us by_ pl).2.1) eq al ((pd K Mo dr dl al o da us by_ pl).2.2.1) ((pd K Mo dr dl al o da us by_ pl).2.2.2.1) (up ln o dl) ((pd K Mo dr dl al o da us by_ pl).2.2.2.2) X))) := by
  have := con_V_placeDraft (l := l) (Mo := Mo) (ol := ol) (ou := ou) (eq := eq) (ln := up ln o dl) (X := X) hx hK hK4 hM ho ha hda hr hdl (by rw [up_at]; exact hdl)
  rw [up_at] at this
  exact this
theorem con_V_store1 {o : Nat} (hx : okU (us, by_, pl)) (hK : 0 < K) (hK4 : K ≤ 4) (hM : Mo ≤ 3) (ho : o < 6) (ha : ∀ i, al i < 2) (hda : ∀ i, da i < 256) (hr : ∀ i, dr i < 256) (hdl : dl ≤ 32) (h0 : ln o = 0) (hd0 : 0 < dl) (hp : (pd K Mo dr dl al o da us by_ pl).1 ≠ 0) :
    Con l i_V_store [.ref 0, .int (nI o)] (CA K Mo dr dl ou ol da eq al us by_ ln pl X) (.inl (some (.int (nI (ns K dl))), (CA K Mo dr 0 ou ol ((pd K Mo dr dl al o da us by_ pl).2.1) eq al ((pd K Mo dr dl al o da us by_ pl).2.2.1) ((pd K Mo dr dl al o da us by_ pl).2.2.2.1) (up ln o dl) ((pd K Mo dr dl al o da us by_ pl).2.2.2.2) X))) := by
  have hh := con_G_holds (l := l) (K := K) (Mo := Mo) (dl := dl) (ol := ol) (dr := dr) (ou := ou) (da := da) (eq := eq) (al := al) (fr := frOf us) (tk := tkOf us) (by_ := byOf by_) (ln := ln) (pl := plOf (K + Mo) pl) (X := X) ho (by omega)
  rw [if_neg (by omega)] at hh
  have hpd := pdCon (l := l) (Mo := Mo) (ol := ol) (ou := ou) (eq := eq) (ln := ln) (X := X) hx hK hK4 hM ho ha hda hr hdl
  rw [if_neg hp] at hpd
  have hso := con_G_stripesOf (l := l) (K := K) (Mo := Mo) (dl := 0) (ol := ol) (dr := dr) (ou := ou) (da := (pd K Mo dr dl al o da us by_ pl).2.1) (eq := eq) (al := al) (fr := frOf (pd K Mo dr dl al o da us by_ pl).2.2.1) (tk := tkOf (pd K Mo dr dl al o da us by_ pl).2.2.1) (by_ := byOf (pd K Mo dr dl al o da us by_ pl).2.2.2.1) (ln := up ln o dl) (pl := plOf (K + Mo) (pd K Mo dr dl al o da us by_ pl).2.2.2.2) (X := X) ho hK hK4 (by rw [up_at]; omega)
  rw [up_at] at hso
  refine Con.of ?_
  refine J.iload_n d_V_store_0 rfl rfl ?_
  refine J.s1i (con_V_isObj1 ho _) k_V_store_V_isObjectNumber d_V_store_1 rfl ?_
  refine J.if_eqN d_V_store_4 (tgt := 25) (by decide) (by omega) (fun h => ?_) (fun h => ?_)
  · exact absurd h (by decide)
  refine J.aload_n d_V_store_7 rfl rfl ?_
  refine J.getfield d_V_store_8 fl_V_32 rfl rfl ?_
  refine J.iload_n d_V_store_11 rfl rfl ?_
  refine J.v1i hh k_V_store_G_holds d_V_store_12 rfl rfl rfl ?_
  refine J.if_neN d_V_store_15 (tgt := 25) (by decide) (by omega) (fun h => ?_) (fun h => ?_)
  · exact absurd rfl h
  refine J.aload_n d_V_store_18 rfl rfl ?_
  refine J.getfield d_V_store_19 fl_V_40 rfl rfl ?_
  refine J.if_neN d_V_store_22 (tgt := 33) (by decide) (by omega) (fun h2 => ?_) (fun h2 => ?_)
  · refine J.aload_n d_V_store_33 rfl rfl ?_
    refine J.getfield d_V_store_34 fl_V_32 rfl rfl ?_
    refine J.iload_n d_V_store_37 rfl rfl ?_
    refine J.aload_n d_V_store_38 rfl rfl ?_
    refine J.getfield d_V_store_39 fl_V_40 rfl rfl ?_
    refine J.v2v (con_G_enter ho) k_V_store_G_enter d_V_store_42 rfl rfl rfl ?_
    refine J.aload_n d_V_store_45 rfl rfl ?_
    refine J.iload_n d_V_store_46 rfl rfl ?_
    refine J.v1i hpd k_V_store_V_placeDraft d_V_store_47 rfl rfl rfl ?_
    refine J.if_neN d_V_store_50 (tgt := 67) (by decide) (by omega) (fun h3 => ?_) (fun h3 => ?_)
    · refine J.aload_n d_V_store_67 rfl rfl ?_
      refine J.iconst d_V_store_68 (v := nI 0) (by decide) ?_
      refine J.putfield d_V_store_69 (fs_V_40 _) rfl (Nat.le_of_ble_eq_true rfl) rfl rfl ?_
      refine J.aload_n d_V_store_72 rfl rfl ?_
      refine J.getfield d_V_store_73 fl_V_32 rfl rfl ?_
      refine J.iload_n d_V_store_76 rfl rfl ?_
      refine J.v1i hso k_V_store_G_stripesOf d_V_store_77 rfl rfl rfl ?_
      exact J.ireturn d_V_store_80 rfl (by decide) (by decide)
    · exact absurd h3 (by decide)
  · omega
theorem con_V_store2 (hl : l.stackTraces = false) {o : Nat} (hx : okU (us, by_, pl)) (hK : 0 < K) (hK4 : K ≤ 4) (hM : Mo ≤ 3) (ho : o < 6) (ha : ∀ i, al i < 2) (hda : ∀ i, da i < 256) (hr : ∀ i, dr i < 256) (hdl : dl ≤ 32) (h0 : ln o = 0) (hd0 : 0 < dl) (hp : (pd K Mo dr dl al o da us by_ pl).1 = 0) (hR : okR (0, (pd K Mo dr dl al o da us by_ pl).2.2.1, (pd K Mo dr dl al o da us by_ pl).2.2.2.2)) :
    Con l i_V_store [.ref 0, .int (nI o)] (CA K Mo dr dl ou ol da eq al us by_ ln pl X) (.inr ("java/lang/IllegalStateException", (CA K Mo dr dl ou ol ((pd K Mo dr dl al o da us by_ pl).2.1) eq al ((rlS o (K + Mo) (0, (pd K Mo dr dl al o da us by_ pl).2.2.1, (pd K Mo dr dl al o da us by_ pl).2.2.2.2) (ns K dl)).2.1) ((pd K Mo dr dl al o da us by_ pl).2.2.2.1) (up (up ln o dl) o 0) ((rlS o (K + Mo) (0, (pd K Mo dr dl al o da us by_ pl).2.2.1, (pd K Mo dr dl al o da us by_ pl).2.2.2.2) (ns K dl)).2.2) X))) := by
  have hh := con_G_holds (l := l) (K := K) (Mo := Mo) (dl := dl) (ol := ol) (dr := dr) (ou := ou) (da := da) (eq := eq) (al := al) (fr := frOf us) (tk := tkOf us) (by_ := byOf by_) (ln := ln) (pl := plOf (K + Mo) pl) (X := X) ho (by omega)
  rw [if_neg (by omega)] at hh
  have hpd := pdCon (l := l) (Mo := Mo) (ol := ol) (ou := ou) (eq := eq) (ln := ln) (X := X) hx hK hK4 hM ho ha hda hr hdl
  rw [if_pos hp] at hpd
  have hro := con_V_releaseObject (l := l) (dl := dl) (ol := ol) (dr := dr) (ou := ou) (da := (pd K Mo dr dl al o da us by_ pl).2.1) (eq := eq) (al := al) (by_ := (pd K Mo dr dl al o da us by_ pl).2.2.2.1) (ln := up ln o dl) (X := X) hR hK hK4 hM ho (by rw [up_at]; exact hdl)
  rw [up_at] at hro
  refine Con.of ?_
  refine J.iload_n d_V_store_0 rfl rfl ?_
  refine J.s1i (con_V_isObj1 ho _) k_V_store_V_isObjectNumber d_V_store_1 rfl ?_
  refine J.if_eqN d_V_store_4 (tgt := 25) (by decide) (by omega) (fun h => ?_) (fun h => ?_)
  · exact absurd h (by decide)
  refine J.aload_n d_V_store_7 rfl rfl ?_
  refine J.getfield d_V_store_8 fl_V_32 rfl rfl ?_
  refine J.iload_n d_V_store_11 rfl rfl ?_
  refine J.v1i hh k_V_store_G_holds d_V_store_12 rfl rfl rfl ?_
  refine J.if_neN d_V_store_15 (tgt := 25) (by decide) (by omega) (fun h => ?_) (fun h => ?_)
  · exact absurd rfl h
  refine J.aload_n d_V_store_18 rfl rfl ?_
  refine J.getfield d_V_store_19 fl_V_40 rfl rfl ?_
  refine J.if_neN d_V_store_22 (tgt := 33) (by decide) (by omega) (fun h2 => ?_) (fun h2 => ?_)
  · refine J.aload_n d_V_store_33 rfl rfl ?_
    refine J.getfield d_V_store_34 fl_V_32 rfl rfl ?_
    refine J.iload_n d_V_store_37 rfl rfl ?_
    refine J.aload_n d_V_store_38 rfl rfl ?_
    refine J.getfield d_V_store_39 fl_V_40 rfl rfl ?_
    refine J.v2v (con_G_enter ho) k_V_store_G_enter d_V_store_42 rfl rfl rfl ?_
    refine J.aload_n d_V_store_45 rfl rfl ?_
    refine J.iload_n d_V_store_46 rfl rfl ?_
    refine J.v1i hpd k_V_store_V_placeDraft d_V_store_47 rfl rfl rfl ?_
    refine J.if_neN d_V_store_50 (tgt := 67) (by decide) (by omega) (fun h3 => ?_) (fun h3 => ?_)
    · exact absurd rfl h3
    · refine J.aload_n d_V_store_53 rfl rfl ?_
      refine J.iload_n d_V_store_54 rfl rfl ?_
      refine J.v1i hro k_V_store_V_releaseObject d_V_store_55 rfl rfl rfl ?_
      refine J.pop d_V_store_58 rfl ?_
      exact J.throwNew hl tw_ISE d_V_store_59 d_V_store_62 d_V_store_63 d_V_store_66 rfl (by decide) (by decide) ⟨by decide, by decide⟩ ⟨by decide, by decide⟩
  · omega
/-- the stripes ahead of n read: the equations, the output -/
def gtS (K Mo : Nat) (pl by_ : Nat → Nat) (o : Nat) (x : ED × (Nat → Nat)) : Nat → ED × (Nat → Nat)
  | 0 => x
  | s + 1 => (rdC K (K + Mo) (lsB pl o s) (vb pl by_ o s) (gtS K Mo pl by_ o x s).1.1 (gtS K Mo pl by_ o x s).1.2, co K (rdC K (K + Mo) (lsB pl o s) (vb pl by_ o s) (gtS K Mo pl by_ o x s).1.1 (gtS K Mo pl by_ o x s).1.2).2 (gtS K Mo pl by_ o x s).2 s (4 * K))
theorem gtS_b {K Mo : Nat} {pl by_ : Nat → Nat} {o : Nat} {x : ED × (Nat → Nat)} (hx : b256 x.1) (hby : ∀ i, by_ i < 256) : ∀ n, b256 (gtS K Mo pl by_ o x n).1
  | 0 => hx
  | n + 1 => rdC_b (gtS_b hx hby n).1 (gtS_b hx hby n).2 (fun _ _ => hby _)
theorem anyB_false {p : Nat → Bool} : ∀ n, anyB p n = false → ∀ i, i < n → p i = false
  | 0, _, i, hi => absurd hi (Nat.not_lt_zero _)
  | n + 1, h, i, hi => by
    simp only [anyB, Bool.or_eq_false_iff] at h
    rcases Nat.lt_or_ge i n with z | z
    · exact anyB_false n h.1 i z
    · have : i = n := by omega
      subst this; exact h.2
theorem lp_V_get {o : Nat} {x : ED × (Nat → Nat)} (hx : b256 x.1) (hK : 0 < K) (hK4 : K ≤ 4) (hM0 : 0 < Mo) (hM : Mo ≤ 3) (ho : o < 6) (hp : ∀ i, pl i ≤ 80) (hby : ∀ i, by_ i < 256) (hln : ln o ≤ 32) (hng : anyB (gn pl Mo o (K + Mo)) (ns K (ln o)) = false) {k n : Nat} (hk : k = 1) (hn : n = 6) : ∀ (j i : Nat), i + j = ns K (ln o) →
    J l i_V_get 23 [(0, .ref 0), (1, .int (nI o)), (2, .int (nI i))] [] (CA K Mo dr dl ((gtS K Mo pl by_ o x i).2) ol ((gtS K Mo pl by_ o x i).1.2) ((gtS K Mo pl by_ o x i).1.1) al us by_ ln pl X) k n (.inl (some (.int (nI (ln o))), (CA K Mo dr dl ((gtS K Mo pl by_ o x (ns K (ln o))).2) (ln o) ((gtS K Mo pl by_ o x (ns K (ln o))).1.2) ((gtS K Mo pl by_ o x (ns K (ln o))).1.1) al us by_ ln pl X)))
  | 0, i, hi => by
    subst hk hn
    have hn8 := ns_le hK hln
    have hi' : i = ns K (ln o) := by omega
    rw [hi']
    refine J.iload_n d_V_get_23 rfl rfl ?_
    refine J.aload_n d_V_get_24 rfl rfl ?_
    refine J.getfield d_V_get_25 fl_V_32 rfl rfl ?_
    refine J.iload_n d_V_get_28 rfl rfl ?_
    refine J.v1i (con_G_stripesOf ho hK hK4 (by omega)) k_V_get_G_stripesOf d_V_get_29 rfl rfl rfl ?_
    refine J.icmp_geN d_V_get_32 (tgt := 59) (by decide) (by omega) (by omega) (fun h => ?_) (fun h => ?_)
    · refine J.aload_n d_V_get_59 rfl rfl ?_
      refine J.aload_n d_V_get_60 rfl rfl ?_
      refine J.getfield d_V_get_61 fl_V_32 rfl rfl ?_
      refine J.iload_n d_V_get_64 rfl rfl ?_
      refine J.v1i (con_G_lengthOf ho) k_V_get_G_lengthOf d_V_get_65 rfl rfl rfl ?_
      refine J.putfield d_V_get_68 (fs_V_47 _) rfl (Nat.le_of_ble_eq_true rfl) rfl rfl ?_
      refine J.aload_n d_V_get_71 rfl rfl ?_
      refine J.getfield d_V_get_72 fl_V_47 rfl rfl ?_
      exact J.ireturn d_V_get_75 rfl (by decide) (by decide)
    · omega
  | j + 1, i, hi => by
    have hn8 := ns_le hK hln
    have hs8 : i < 8 := by omega
    have hb := gtS_b (K := K) (Mo := Mo) (pl := pl) (o := o) hx hby i
    have hg := anyB_false _ hng i (by omega)
    have hnl : nl pl o i (K + Mo) ≤ Mo := by simpa [gn] using hg
    have ih := lp_V_get hx hK hK4 hM0 hM ho hp hby hln hng hk hn j (i + 1) (by omega)
    subst hk hn
    refine J.iload_n d_V_get_23 rfl rfl ?_
    refine J.aload_n d_V_get_24 rfl rfl ?_
    refine J.getfield d_V_get_25 fl_V_32 rfl rfl ?_
    refine J.iload_n d_V_get_28 rfl rfl ?_
    refine J.v1i (con_G_stripesOf ho hK hK4 (by omega)) k_V_get_G_stripesOf d_V_get_29 rfl rfl rfl ?_
    refine J.icmp_geN d_V_get_32 (tgt := 59) (by decide) (by omega) (by omega) (fun h => ?_) (fun h => ?_)
    · omega
    refine J.aload_n d_V_get_35 rfl rfl ?_
    refine J.aload_n d_V_get_36 rfl rfl ?_
    refine J.getfield d_V_get_37 fl_V_32 rfl rfl ?_
    refine J.iload_n d_V_get_40 rfl rfl ?_
    refine J.iload_n d_V_get_41 rfl rfl ?_
    refine J.v2i con_G_rowOf k_V_get_G_rowOf d_V_get_42 rfl rfl rfl ?_
    refine J.v1v (con_V_readStripe hK hK4 hM ho hs8 hp (selOk_nl hK hK4 hM0 hM hnl) hb.1 hb.2 hby) k_V_get_V_readStripe d_V_get_45 rfl rfl rfl ?_
    refine J.aload_n d_V_get_48 rfl rfl ?_
    refine J.iload_n d_V_get_49 rfl rfl ?_
    refine J.v1v (con_V_copyDataToOutput hK4 hs8) k_V_get_V_copyDataToOutput d_V_get_50 rfl rfl rfl ?_
    refine J.iincN d_V_get_53 rfl rfl (by decide) rfl ?_
    refine J.goto d_V_get_56 (tgt := 23) (by decide) ?_
    exact ih
theorem con_V_get1 {o : Nat} (he : ∀ i, eq i < 256) (hda : ∀ i, da i < 256) (hK : 0 < K) (hK4 : K ≤ 4) (hM0 : 0 < Mo) (hM : Mo ≤ 3) (ho : o < 6) (hp : ∀ i, pl i ≤ 80) (hby : ∀ i, by_ i < 256) (hl : 0 < ln o) (hln : ln o ≤ 32) (hng : anyB (gn pl Mo o (K + Mo)) (ns K (ln o)) = false) :
    Con l i_V_get [.ref 0, .int (nI o)] (CA K Mo dr dl ou ol da eq al us by_ ln pl X) (.inl (some (.int (nI (ln o))), (CA K Mo dr dl ((gtS K Mo pl by_ o ((eq, da), ou) (ns K (ln o))).2) (ln o) ((gtS K Mo pl by_ o ((eq, da), ou) (ns K (ln o))).1.2) ((gtS K Mo pl by_ o ((eq, da), ou) (ns K (ln o))).1.1) al us by_ ln pl X))) := by
  have hgs := con_V_hasGoneStripe (l := l) (dl := dl) (ol := ol) (dr := dr) (ou := ou) (da := da) (eq := eq) (al := al) (us := us) (by_ := by_) (X := X) hK hK4 hM ho hp hln
  rw [hng] at hgs
  have hbf : b2n false = 0 := rfl
  refine Con.of ?_
  refine J.aload_n d_V_get_0 rfl rfl ?_
  refine J.iload_n d_V_get_1 rfl rfl ?_
  refine J.v1v (con_V_reqO1 ho hl hln) k_V_get_V_requireObject d_V_get_2 rfl rfl rfl ?_
  refine J.aload_n d_V_get_5 rfl rfl ?_
  refine J.iload_n d_V_get_6 rfl rfl ?_
  refine J.v1i hgs k_V_get_V_hasGoneStripe d_V_get_7 rfl rfl rfl ?_
  refine J.if_eqN d_V_get_10 (tgt := 21) (by decide) (by omega) (fun h => ?_) (fun h => ?_)
  · refine J.iconst d_V_get_21 (v := nI 0) (by decide) ?_
    refine J.istore_n d_V_get_22 rfl (by decide) rfl ?_
    exact lp_V_get (x := ((eq, da), ou)) ⟨he, hda⟩ hK hK4 hM0 hM ho hp hby hln hng rfl rfl (ns K (ln o)) 0 (by omega)
  · exact absurd rfl h
theorem con_V_get0 (hl : l.stackTraces = false) {x : Int32} (hx : noO ln x) : Con l i_V_get [.ref 0, .int x] (CA K Mo dr dl ou ol da eq al us by_ ln pl X) (.inr ("java/util/NoSuchElementException", (CA K Mo dr dl ou ol da eq al us by_ ln pl X))) := by
  refine Con.of ?_
  refine J.aload_n d_V_get_0 rfl rfl ?_
  refine J.iload_n d_V_get_1 rfl rfl ?_
  exact J.t1 (con_V_reqO0 hl hx) k_V_get_V_requireObject d_V_get_2 rfl rfl
theorem con_V_get2 (hl0 : l.stackTraces = false) {o : Nat} (hK : 0 < K) (hK4 : K ≤ 4) (hM : Mo ≤ 3) (ho : o < 6) (hp : ∀ i, pl i ≤ 80) (hl : 0 < ln o) (hln : ln o ≤ 32) (hg : anyB (gn pl Mo o (K + Mo)) (ns K (ln o)) = true) : Con l i_V_get [.ref 0, .int (nI o)] (CA K Mo dr dl ou ol da eq al us by_ ln pl X) (.inr ("java/lang/IllegalStateException", (CA K Mo dr dl ou ol da eq al us by_ ln pl X))) := by
  have hgs := con_V_hasGoneStripe (l := l) (dl := dl) (ol := ol) (dr := dr) (ou := ou) (da := da) (eq := eq) (al := al) (us := us) (by_ := by_) (X := X) hK hK4 hM ho hp hln
  rw [hg] at hgs
  have hbt : b2n true = 1 := rfl
  refine Con.of ?_
  refine J.aload_n d_V_get_0 rfl rfl ?_
  refine J.iload_n d_V_get_1 rfl rfl ?_
  refine J.v1v (con_V_reqO1 ho hl hln) k_V_get_V_requireObject d_V_get_2 rfl rfl rfl ?_
  refine J.aload_n d_V_get_5 rfl rfl ?_
  refine J.iload_n d_V_get_6 rfl rfl ?_
  refine J.v1i hgs k_V_get_V_hasGoneStripe d_V_get_7 rfl rfl rfl ?_
  refine J.if_eqN d_V_get_10 (tgt := 21) (by decide) (by omega) (fun h => ?_) (fun h => ?_)
  · exact absurd h (by decide)
  · exact J.throwNew hl0 tw_ISE d_V_get_13 d_V_get_16 d_V_get_17 d_V_get_20 rfl (by decide) (by decide) ⟨by decide, by decide⟩ ⟨by decide, by decide⟩
/-- the stripes ahead of n checked: the equations, how many are wrong -/
def ckS (K Mo : Nat) (pl by_ : Nat → Nat) (o : Nat) (x : ED × Nat) : Nat → ED × Nat
  | 0 => x
  | s + 1 => if Mo < nl pl o s (K + Mo) then ckS K Mo pl by_ o x s else (rdC K (K + Mo) (lsB pl o s) (vb pl by_ o s) (ckS K Mo pl by_ o x s).1.1 (ckS K Mo pl by_ o x s).1.2, (ckS K Mo pl by_ o x s).2 + b2n (anyB (ws1 K (rdC K (K + Mo) (lsB pl o s) (vb pl by_ o s) (ckS K Mo pl by_ o x s).1.1 (ckS K Mo pl by_ o x s).1.2).2 by_ pl o s) (K + Mo)))
theorem ckS_b {K Mo : Nat} {pl by_ : Nat → Nat} {o : Nat} {x : ED × Nat} (hx : b256 x.1) (hby : ∀ i, by_ i < 256) : ∀ n, b256 (ckS K Mo pl by_ o x n).1
  | 0 => hx
  | n + 1 => by
    unfold ckS; split
    · exact ckS_b hx hby n
    · exact rdC_b (ckS_b hx hby n).1 (ckS_b hx hby n).2 (fun _ _ => hby _)
theorem lp_V_check {o : Nat} {x : ED × Nat} (hx : b256 x.1) (hK : 0 < K) (hK4 : K ≤ 4) (hM0 : 0 < Mo) (hM : Mo ≤ 3) (ho : o < 6) (hp : ∀ i, pl i ≤ 80) (hby : ∀ i, by_ i < 256) (hln : ln o ≤ 32) {k n : Nat} (hk : k = 1) (hn : n = 6) : ∀ (j i : Nat), i + j = ns K (ln o) →
    J l i_V_check 9 [(0, .ref 0), (1, .int (nI o)), (2, .int (nI (ckS K Mo pl by_ o x i).2)), (3, .int (nI i))] [] (CA K Mo dr dl ou ol ((ckS K Mo pl by_ o x i).1.2) ((ckS K Mo pl by_ o x i).1.1) al us by_ ln pl X) k n (.inl (some (.int (nI (ckS K Mo pl by_ o x (ns K (ln o))).2)), (CA K Mo dr dl ou ol ((ckS K Mo pl by_ o x (ns K (ln o))).1.2) ((ckS K Mo pl by_ o x (ns K (ln o))).1.1) al us by_ ln pl X)))
  | 0, i, hi => by
    subst hk hn
    have hn8 := ns_le hK hln
    have hi' : i = ns K (ln o) := by omega
    rw [hi']
    refine J.iload_n d_V_check_9 rfl rfl ?_
    refine J.aload_n d_V_check_10 rfl rfl ?_
    refine J.getfield d_V_check_11 fl_V_32 rfl rfl ?_
    refine J.iload_n d_V_check_14 rfl rfl ?_
    refine J.v1i (con_G_stripesOf ho hK hK4 (by omega)) k_V_check_G_stripesOf d_V_check_15 rfl rfl rfl ?_
    refine J.icmp_geN d_V_check_18 (tgt := 59) (by decide) (by omega) (by omega) (fun h => ?_) (fun h => ?_)
    · refine J.iload_n d_V_check_59 rfl rfl ?_
      exact J.ireturn d_V_check_60 rfl (by decide) (by decide)
    · omega
  | j + 1, i, hi => by
    have hn8 := ns_le hK hln
    have hS : K + Mo ≤ 7 := by omega
    have hs8 : i < 8 := by omega
    have hb := ckS_b (K := K) (Mo := Mo) (pl := pl) (o := o) hx hby i
    have ih := lp_V_check hx hK hK4 hM0 hM ho hp hby hln hk hn j (i + 1) (by omega)
    subst hk hn
    refine J.iload_n d_V_check_9 rfl rfl ?_
    refine J.aload_n d_V_check_10 rfl rfl ?_
    refine J.getfield d_V_check_11 fl_V_32 rfl rfl ?_
    refine J.iload_n d_V_check_14 rfl rfl ?_
    refine J.v1i (con_G_stripesOf ho hK hK4 (by omega)) k_V_check_G_stripesOf d_V_check_15 rfl rfl rfl ?_
    refine J.icmp_geN d_V_check_18 (tgt := 59) (by decide) (by omega) (by omega) (fun h => ?_) (fun h => ?_)
    · omega
    refine J.aload_n d_V_check_21 rfl rfl ?_
    refine J.getfield d_V_check_22 fl_V_32 rfl rfl ?_
    refine J.iload_n d_V_check_25 rfl rfl ?_
    refine J.iload_n d_V_check_26 rfl rfl ?_
    refine J.v2i con_G_rowOf k_V_check_G_rowOf d_V_check_27 rfl rfl rfl ?_
    refine J.istore d_V_check_30 (by decide) rfl ?_
    refine J.aload_n d_V_check_32 rfl rfl ?_
    refine J.iload d_V_check_33 rfl ?_
    refine J.v1i (con_V_isGone hS ho hs8 hp) k_V_check_V_isGone d_V_check_35 rfl rfl rfl ?_
    by_cases hg : Mo < nl pl o i (K + Mo)
    · rw [if_pos hg]
      have e : ckS K Mo pl by_ o x (i + 1) = ckS K Mo pl by_ o x i := by
        show (if _ then _ else _) = _
        rw [if_pos hg]
      rw [e] at ih
      refine J.if_neN d_V_check_38 (tgt := 53) (by decide) (by omega) (fun h3 => ?_) (fun h3 => ?_)
      · refine J.iincN d_V_check_53 rfl rfl (by decide) rfl ?_
        refine J.goto d_V_check_56 (tgt := 9) (by decide) ?_
        exact J.sub [0, 1, 2, 3] ih
      · exact absurd h3 (by decide)
    · rw [if_neg hg]
      have e : ckS K Mo pl by_ o x (i + 1) = (rdC K (K + Mo) (lsB pl o i) (vb pl by_ o i) (ckS K Mo pl by_ o x i).1.1 (ckS K Mo pl by_ o x i).1.2, (ckS K Mo pl by_ o x i).2 + b2n (anyB (ws1 K (rdC K (K + Mo) (lsB pl o i) (vb pl by_ o i) (ckS K Mo pl by_ o x i).1.1 (ckS K Mo pl by_ o x i).1.2).2 by_ pl o i) (K + Mo))) := by
        show (if _ then _ else _) = _
        rw [if_neg hg]
      rw [e] at ih
      refine J.if_neN d_V_check_38 (tgt := 53) (by decide) (by omega) (fun h3 => ?_) (fun h3 => ?_)
      · exact absurd rfl h3
      refine J.aload_n d_V_check_41 rfl rfl ?_
      refine J.iload d_V_check_42 rfl ?_
      refine J.v1i (con_V_hasWrongShard hK hK4 hM ho hs8 hp (selOk_nl hK hK4 hM0 hM (by omega)) hb.1 hb.2 hby) k_V_check_V_hasWrongShard d_V_check_44 rfl rfl rfl ?_
      cases hz : anyB (ws1 K (rdC K (K + Mo) (lsB pl o i) (vb pl by_ o i) (ckS K Mo pl by_ o x i).1.1 (ckS K Mo pl by_ o x i).1.2).2 by_ pl o i) (K + Mo) with
      | true =>
        rw [hz] at ih
        have hbt : b2n true = 1 := rfl
        refine J.if_eqN d_V_check_47 (tgt := 53) (by decide) (by omega) (fun h4 => ?_) (fun h4 => ?_)
        · exact absurd h4 (by decide)
        · refine J.iincN d_V_check_50 rfl rfl (by decide) rfl ?_
          refine J.iincN d_V_check_53 rfl rfl (by decide) rfl ?_
          refine J.goto d_V_check_56 (tgt := 9) (by decide) ?_
          exact J.sub [0, 1, 2, 3] ih
      | false =>
        rw [hz] at ih
        have hbf : b2n false = 0 := rfl
        refine J.if_eqN d_V_check_47 (tgt := 53) (by decide) (by omega) (fun h4 => ?_) (fun h4 => ?_)
        · refine J.iincN d_V_check_53 rfl rfl (by decide) rfl ?_
          refine J.goto d_V_check_56 (tgt := 9) (by decide) ?_
          exact J.sub [0, 1, 2, 3] ih
        · exact absurd rfl h4
theorem con_V_check1 {o : Nat} (he : ∀ i, eq i < 256) (hda : ∀ i, da i < 256) (hK : 0 < K) (hK4 : K ≤ 4) (hM0 : 0 < Mo) (hM : Mo ≤ 3) (ho : o < 6) (hp : ∀ i, pl i ≤ 80) (hby : ∀ i, by_ i < 256) (hl : 0 < ln o) (hln : ln o ≤ 32) :
    Con l i_V_check [.ref 0, .int (nI o)] (CA K Mo dr dl ou ol da eq al us by_ ln pl X) (.inl (some (.int (nI (ckS K Mo pl by_ o ((eq, da), 0) (ns K (ln o))).2)), (CA K Mo dr dl ou ol ((ckS K Mo pl by_ o ((eq, da), 0) (ns K (ln o))).1.2) ((ckS K Mo pl by_ o ((eq, da), 0) (ns K (ln o))).1.1) al us by_ ln pl X))) := by
  refine Con.of ?_
  refine J.aload_n d_V_check_0 rfl rfl ?_
  refine J.iload_n d_V_check_1 rfl rfl ?_
  refine J.v1v (con_V_reqO1 ho hl hln) k_V_check_V_requireObject d_V_check_2 rfl rfl rfl ?_
  refine J.iconst d_V_check_5 (v := nI 0) (by decide) ?_
  refine J.istore_n d_V_check_6 rfl (by decide) rfl ?_
  refine J.iconst d_V_check_7 (v := nI 0) (by decide) ?_
  refine J.istore_n d_V_check_8 rfl (by decide) rfl ?_
  exact lp_V_check (x := ((eq, da), 0)) ⟨he, hda⟩ hK hK4 hM0 hM ho hp hby hln rfl rfl (ns K (ln o)) 0 (by omega)
theorem con_V_check0 (hl : l.stackTraces = false) {x : Int32} (hx : noO ln x) : Con l i_V_check [.ref 0, .int x] (CA K Mo dr dl ou ol da eq al us by_ ln pl X) (.inr ("java/util/NoSuchElementException", (CA K Mo dr dl ou ol da eq al us by_ ln pl X))) := by
  refine Con.of ?_
  refine J.aload_n d_V_check_0 rfl rfl ?_
  refine J.iload_n d_V_check_1 rfl rfl ?_
  exact J.t1 (con_V_reqO0 hl hx) k_V_check_V_requireObject d_V_check_2 rfl rfl
end PUB2
end
section
/-! The reference's memory, behind fifteen cells; its arithmetic and small methods -/
def fc4 (K Mo : Nat) (i : Nat) : Nat := if i / 4 < K + Mo ∧ i % 4 < K then fac K (i / 4 * K + i % 4) else 0
def RM (P : Nat → va_E) (K Mo co : Nat) (dr : Nat → Nat) (sz : Nat) (al us by_ ln pl : Nat → Nat) (os : Nat) (ou rd sp rw : Nat → Nat) (Y : List va_E) : List va_E :=
  P 0 :: P 1 :: P 2 :: P 3 :: P 4 :: P 5 :: P 6 :: P 7 :: P 8 :: P 9 :: P 10 :: P 11 :: P 12 :: P 13 :: P 14 ::
  .inr (4, [.int (nI K), .int (nI Mo), .int (nI co), .ref 16, .int (nI sz), .ref 17, .ref 18, .ref 19, .ref 20, .ref 21, .ref 22, .int (nI os), .ref 23, .ref 24, .ref 25, .ref 26]) ::
  aI 32 dr :: aZ 8 al :: aZ 80 us :: aI 320 by_ :: aI 6 ln :: aP 336 pl :: aI 28 (fc4 K Mo) :: aI 32 ou :: aI 32 rd :: aI 16 sp :: aI 20 rw :: Y
section REF
variable {l : Launch} {P : Nat → va_E} {K Mo co sz os : Nat} {dr al us by_ ln pl ou rd sp rw : Nat → Nat} {Y : List va_E}
theorem lp_R_times (a b : Nat) (hb : b < 256) (M : List va_E) : ∀ (j i s d : Nat), i + j = 8 → s < 256 → d < 256 →
    J l i_R_times 7 [(0, .int (nI a)), (1, .int (nI b)), (2, .int (nI s)), (3, .int (nI d)), (4, .int (nI i))] [] M 0 0 (.inl (some (.int (nI (gL j (b / 2 ^ i) s d))), M))
  | 0, i, s, d, hi, hs, hd => by
    refine J.iload d_R_times_7 rfl ?_
    refine J.bipush d_R_times_9 (v := nI 8) (by decide) ?_
    refine J.icmp_geN d_R_times_11 (tgt := 59) (by decide) (by omega) (by omega) (fun h => ?_) (fun h => ?_)
    · refine J.iload_n d_R_times_59 rfl rfl ?_
      exact J.ireturn d_R_times_60 rfl (by decide) (by decide)
    · omega
  | j + 1, i, s, d, hi, hs, hd => by
    refine J.iload d_R_times_7 rfl ?_
    refine J.bipush d_R_times_9 (v := nI 8) (by decide) ?_
    refine J.icmp_geN d_R_times_11 (tgt := 59) (by decide) (by omega) (by omega) (fun h => ?_) (fun h => ?_)
    · omega
    have hx := div2l (i := i) hb
    have back : ∀ s', s' < 256 → s' = (if b / 2 ^ i % 2 = 1 then s ^^^ d else s) → J l i_R_times 31 [(0, .int (nI a)), (1, .int (nI b)), (2, .int (nI s)), (3, .int (nI d)), (4, .int (nI i))] [.int (nI s')] M 0 0 (.inl (some (.int (nI (gL (j + 1) (b / 2 ^ i) s d))), M)) := by
      intro s' hs' e'
      unfold gL
      rw [← e', div2p]
      have hg := gd_lt hd
      refine J.istore_n d_R_times_31 rfl (by decide) rfl ?_
      refine J.iconst d_R_times_32 (v := nI 2) (by decide) ?_
      refine J.iload_n d_R_times_33 rfl rfl ?_
      refine J.imulN d_R_times_34 ?_
      refine J.istore_n d_R_times_35 rfl (by decide) rfl ?_
      refine J.iload_n d_R_times_36 rfl rfl ?_
      refine J.sipush d_R_times_37 (v := nI 255) (by decide) ?_
      refine J.icmp_leN d_R_times_40 (tgt := 51) (by decide) (by omega) (by omega) (fun h2 => ?_) (fun h2 => ?_)
      · have e2 : gd d = 2 * d := by unfold gd; rw [if_neg (by omega)]
        rw [e2] at hg ⊢
        refine J.iload_n d_R_times_51 rfl rfl ?_
        refine J.istore_n d_R_times_52 rfl (by decide) rfl ?_
        refine J.iincN d_R_times_53 rfl rfl (by decide) rfl ?_
        refine J.goto d_R_times_56 (tgt := 7) (by decide) ?_
        exact lp_R_times a b hb M j (i + 1) s' (2 * d) (by omega) hs' hg
      · have e2 : gd d = (2 * d) ^^^ 285 := by unfold gd; rw [if_pos (by omega)]
        rw [e2] at hg ⊢
        refine J.iload_n d_R_times_43 rfl rfl ?_
        refine J.sipush d_R_times_44 (v := nI 285) (by decide) ?_
        refine J.ixorN d_R_times_47 ?_
        refine J.goto d_R_times_48 (tgt := 52) (by decide) ?_
        refine J.istore_n d_R_times_52 rfl (by decide) rfl ?_
        refine J.iincN d_R_times_53 rfl rfl (by decide) rfl ?_
        refine J.goto d_R_times_56 (tgt := 7) (by decide) ?_
        exact lp_R_times a b hb M j (i + 1) s' ((2 * d) ^^^ 285) (by omega) hs' hg
    refine J.iload_n d_R_times_14 rfl rfl ?_
    refine J.iload d_R_times_15 rfl ?_
    refine J.ishrN d_R_times_17 (by omega) (by omega) ?_
    refine J.iconst d_R_times_18 (v := nI 1) (by decide) ?_
    refine J.iandN d_R_times_19 ?_
    rw [and1]
    refine J.iconst d_R_times_20 (v := nI 1) (by decide) ?_
    refine J.icmp_neN d_R_times_21 (tgt := 30) (by decide) (by omega) (by omega) (fun h1 => ?_) (fun h1 => ?_)
    · refine J.iload_n d_R_times_30 rfl rfl ?_
      exact back s hs (by rw [if_neg h1])
    · refine J.iload_n d_R_times_24 rfl rfl ?_
      refine J.iload_n d_R_times_25 rfl rfl ?_
      refine J.ixorN d_R_times_26 ?_
      refine J.goto d_R_times_27 (tgt := 31) (by decide) ?_
      exact back (s ^^^ d) (xor_lt hs hd) (by rw [if_pos h1])
theorem con_R_times {a b : Nat} (ha : a < 256) (hb : b < 256) (M : List va_E) : Con l i_R_times [.int (nI a), .int (nI b)] M (.inl (some (.int (nI (gm a b))), M)) := by
  refine Con.of ?_
  refine J.iconst d_R_times_0 (v := nI 0) (by decide) ?_
  refine J.istore_n d_R_times_1 rfl (by decide) rfl ?_
  refine J.iload_n d_R_times_2 rfl rfl ?_
  refine J.istore_n d_R_times_3 rfl (by decide) rfl ?_
  refine J.iconst d_R_times_4 (v := nI 0) (by decide) ?_
  refine J.istore d_R_times_5 (by decide) rfl ?_
  have := lp_R_times (l := l) a b hb M 8 0 0 a rfl (by decide) ha
  rw [Nat.pow_zero, Nat.div_one] at this
  exact this
theorem lp_R_inverse {a : Nat} (h0 : 0 < a) (ha : a < 256) (M : List va_E) : ∀ (j i : Nat), i + j = gi a →
    J l i_R_inverse 2 [(0, .int (nI a)), (1, .int (nI i))] [] M 0 0 (.inl (some (.int (nI (gi a))), M))
  | 0, i, hi => by
    have h1 := gi_one h0 ha
    have h2 := gi_lt a
    have hi' : i = gi a := by omega
    rw [hi']
    refine J.iload_n d_R_inverse_2 rfl rfl ?_
    refine J.iload_n d_R_inverse_3 rfl rfl ?_
    refine J.s2i (con_R_times ha h2 M) k_R_inverse_R_times d_R_inverse_4 rfl ?_
    rw [h1.1]
    refine J.iconst d_R_inverse_7 (v := nI 1) (by decide) ?_
    refine J.icmp_eqN d_R_inverse_8 (tgt := 17) (by decide) (by omega) (by omega) (fun h => ?_) (fun h => ?_)
    · refine J.iload_n d_R_inverse_17 rfl rfl ?_
      exact J.ireturn d_R_inverse_18 rfl (by decide) (by decide)
    · exact absurd rfl h
  | j + 1, i, hi => by
    have h2 := gi_lt a
    have hm := gm_lt (b := i) ha
    have h3 := gi_least (x := i) ha (by omega)
    refine J.iload_n d_R_inverse_2 rfl rfl ?_
    refine J.iload_n d_R_inverse_3 rfl rfl ?_
    refine J.s2i (con_R_times ha (by omega) M) k_R_inverse_R_times d_R_inverse_4 rfl ?_
    refine J.iconst d_R_inverse_7 (v := nI 1) (by decide) ?_
    refine J.icmp_eqN d_R_inverse_8 (tgt := 17) (by decide) (by omega) (by omega) (fun h => ?_) (fun h => ?_)
    · exact absurd h h3
    · refine J.iincN d_R_inverse_11 rfl rfl (by decide) rfl ?_
      refine J.goto d_R_inverse_14 (tgt := 2) (by decide) ?_
      exact lp_R_inverse h0 ha M j (i + 1) (by omega)
theorem con_R_inverse {a : Nat} (h0 : 0 < a) (ha : a < 256) (M : List va_E) : Con l i_R_inverse [.int (nI a)] M (.inl (some (.int (nI (gi a))), M)) := by
  have h1 := gi_one h0 ha
  refine Con.of ?_
  refine J.iconst d_R_inverse_0 (v := nI 1) (by decide) ?_
  refine J.istore_n d_R_inverse_1 rfl (by decide) rfl ?_
  exact lp_R_inverse h0 ha M (gi a - 1) 1 (by omega)
theorem fc4_at {K Mo h j : Nat} (hh : h < K + Mo) (hj : j < K) (hK4 : K ≤ 4) : fc4 K Mo (4 * h + j) = fac K (h * K + j) := by
  have h1 : (4 * h + j) / 4 = h := by omega
  have h2 : (4 * h + j) % 4 = j := by omega
  simp [fc4, h1, h2, hh, hj]
theorem con_R_factor {h j : Nat} (hh : h < K + Mo) (hj : j < K) (hK4 : K ≤ 4) (hS : K + Mo ≤ 7) : Con l i_R_factor [.ref 15, .int (nI h), .int (nI j)] (RM P K Mo co dr sz al us by_ ln pl os ou rd sp rw Y) (.inl (some (.int (nI (fac K (h * K + j)))), (RM P K Mo co dr sz al us by_ ln pl os ou rd sp rw Y))) := by
  rw [← fc4_at hh hj hK4]
  refine Con.of ?_
  refine J.aload_n d_R_factor_0 rfl rfl ?_
  refine J.getfield d_R_factor_1 fl_R_29 rfl rfl ?_
  refine J.iconst d_R_factor_4 (v := nI 4) (by decide) ?_
  refine J.iload_n d_R_factor_5 rfl rfl ?_
  refine J.imulN d_R_factor_6 ?_
  refine J.iload_n d_R_factor_7 rfl rfl ?_
  refine J.iaddN d_R_factor_8 ?_
  refine J.ialoadN d_R_factor_9 rfl (by omega) (by omega) ?_
  exact J.ireturn d_R_factor_10 rfl (by decide) (by decide)
theorem con_R_shards : Con l i_R_shards [.ref 15] (RM P K Mo co dr sz al us by_ ln pl os ou rd sp rw Y) (.inl (some (.int (nI (K + Mo))), (RM P K Mo co dr sz al us by_ ln pl os ou rd sp rw Y))) := by
  refine Con.of ?_
  refine J.aload_n d_R_shards_0 rfl rfl ?_
  refine J.getfield d_R_shards_1 fl_R_44 rfl rfl ?_
  refine J.aload_n d_R_shards_4 rfl rfl ?_
  refine J.getfield d_R_shards_5 fl_R_48 rfl rfl ?_
  refine J.iaddN d_R_shards_8 ?_
  exact J.ireturn d_R_shards_9 rfl (by decide) (by decide)
theorem con_R_stripesOf {o : Nat} (ho : o < 6) (hK : 0 < K) (hK4 : K ≤ 4) (hl : ln o < 2 ^ 30) : Con l i_R_stripesOf [.ref 15, .int (nI o)] (RM P K Mo co dr sz al us by_ ln pl os ou rd sp rw Y) (.inl (some (.int (nI (ns K (ln o)))), (RM P K Mo co dr sz al us by_ ln pl os ou rd sp rw Y))) := by
  refine Con.of ?_
  refine J.aload_n d_R_stripesOf_0 rfl rfl ?_
  refine J.getfield d_R_stripesOf_1 fl_R_23 rfl rfl ?_
  refine J.iload_n d_R_stripesOf_4 rfl rfl ?_
  refine J.ialoadN d_R_stripesOf_5 rfl (by omega) (by omega) ?_
  refine J.iconst d_R_stripesOf_6 (v := nI 4) (by decide) ?_
  refine J.aload_n d_R_stripesOf_7 rfl rfl ?_
  refine J.getfield d_R_stripesOf_8 fl_R_44 rfl rfl ?_
  refine J.imulN d_R_stripesOf_11 ?_
  refine J.iaddN d_R_stripesOf_12 ?_
  refine J.iconst d_R_stripesOf_13 (v := nI 1) (by decide) ?_
  refine J.isubN d_R_stripesOf_14 (by omega) ?_
  refine J.iconst d_R_stripesOf_15 (v := nI 4) (by decide) ?_
  refine J.aload_n d_R_stripesOf_16 rfl rfl ?_
  refine J.getfield d_R_stripesOf_17 fl_R_44 rfl rfl ?_
  refine J.imulN d_R_stripesOf_20 ?_
  refine J.idivN d_R_stripesOf_21 (by omega) (by omega) (by omega) ?_
  exact J.ireturn d_R_stripesOf_22 rfl (by decide) (by decide)
theorem con_R_place {o s h : Nat} (ho : o < 6) (hs : s < 8) (hh : h < 7) : Con l i_R_place [.ref 15, .int (nI o), .int (nI s), .int (nI h)] (RM P K Mo co dr sz al us by_ ln pl os ou rd sp rw Y) (.inl (some (.int (pI (pl (56 * o + 7 * s + h)))), (RM P K Mo co dr sz al us by_ ln pl os ou rd sp rw Y))) := by
  refine Con.of ?_
  refine J.aload_n d_R_place_0 rfl rfl ?_
  refine J.getfield d_R_place_1 fl_R_26 rfl rfl ?_
  refine J.bipush d_R_place_4 (v := nI 56) (by decide) ?_
  refine J.iload_n d_R_place_6 rfl rfl ?_
  refine J.imulN d_R_place_7 ?_
  refine J.bipush d_R_place_8 (v := nI 7) (by decide) ?_
  refine J.iload_n d_R_place_10 rfl rfl ?_
  refine J.imulN d_R_place_11 ?_
  refine J.iaddN d_R_place_12 ?_
  refine J.iload_n d_R_place_13 rfl rfl ?_
  refine J.iaddN d_R_place_14 ?_
  refine J.ialoadP d_R_place_15 rfl (by omega) (by omega) ?_
  exact J.ireturn d_R_place_16 rfl (by decide) (by decide)
theorem lp_R_lost {o s : Nat} (ho : o < 6) (hs : s < 8) (hS : K + Mo ≤ 7) (hp : ∀ i, pl i ≤ 80) : ∀ (j i : Nat), i + j = K + Mo →
    J l i_R_lost 5 [(0, .ref 15), (1, .int (nI o)), (2, .int (nI s)), (3, .int (nI (nl pl o s i))), (4, .int (nI i))] [] (RM P K Mo co dr sz al us by_ ln pl os ou rd sp rw Y) 0 0 (.inl (some (.int (nI (nl pl o s (K + Mo)))), (RM P K Mo co dr sz al us by_ ln pl os ou rd sp rw Y)))
  | 0, i, hi => by
    refine J.iload d_R_lost_5 rfl ?_
    refine J.aload_n d_R_lost_7 rfl rfl ?_
    refine J.v0i con_R_shards k_R_lost_R_shards d_R_lost_8 rfl rfl rfl ?_
    refine J.icmp_geN d_R_lost_11 (tgt := 39) (by decide) (by omega) (by omega) (fun h => ?_) (fun h => ?_)
    · rw [show i = K + Mo by omega]
      refine J.iload_n d_R_lost_39 rfl rfl ?_
      exact J.ireturn d_R_lost_40 rfl (by decide) (by decide)
    · omega
  | j + 1, i, hi => by
    have hpi := hp (56 * o + 7 * s + i)
    have ih := lp_R_lost ho hs hS hp j (i + 1) (by omega)
    have e : nl pl o s (i + 1) = nl pl o s i + z1 (pl (56 * o + 7 * s + i)) := rfl
    rw [e] at ih
    refine J.iload d_R_lost_5 rfl ?_
    refine J.aload_n d_R_lost_7 rfl rfl ?_
    refine J.v0i con_R_shards k_R_lost_R_shards d_R_lost_8 rfl rfl rfl ?_
    refine J.icmp_geN d_R_lost_11 (tgt := 39) (by decide) (by omega) (by omega) (fun h => ?_) (fun h => ?_)
    · omega
    refine J.aload_n d_R_lost_14 rfl rfl ?_
    refine J.iload_n d_R_lost_15 rfl rfl ?_
    refine J.iload_n d_R_lost_16 rfl rfl ?_
    refine J.iload d_R_lost_17 rfl ?_
    refine J.v3i (con_R_place ho hs (by omega)) k_R_lost_R_place d_R_lost_19 rfl rfl rfl ?_
    refine J.if_geP d_R_lost_22 (tgt := 31) (by decide) (by omega) (fun q => ?_) (fun q => ?_)
    · have e2 : z1 (pl (56 * o + 7 * s + i)) = 0 := by unfold z1; rw [if_neg (by omega)]
      rw [e2] at ih
      refine J.iload_n d_R_lost_31 rfl rfl ?_
      refine J.istore_n d_R_lost_32 rfl (by decide) rfl ?_
      refine J.iincN d_R_lost_33 rfl rfl (by decide) rfl ?_
      refine J.goto d_R_lost_36 (tgt := 5) (by decide) ?_
      exact ih
    · have e2 : z1 (pl (56 * o + 7 * s + i)) = 1 := by unfold z1; rw [if_pos (by omega)]
      rw [e2] at ih
      refine J.iload_n d_R_lost_25 rfl rfl ?_
      refine J.iconst d_R_lost_26 (v := nI 1) (by decide) ?_
      refine J.iaddN d_R_lost_27 ?_
      refine J.goto d_R_lost_28 (tgt := 32) (by decide) ?_
      refine J.istore_n d_R_lost_32 rfl (by decide) rfl ?_
      refine J.iincN d_R_lost_33 rfl rfl (by decide) rfl ?_
      refine J.goto d_R_lost_36 (tgt := 5) (by decide) ?_
      exact ih
theorem con_R_lost {o s : Nat} (ho : o < 6) (hs : s < 8) (hS : K + Mo ≤ 7) (hp : ∀ i, pl i ≤ 80) : Con l i_R_lost [.ref 15, .int (nI o), .int (nI s)] (RM P K Mo co dr sz al us by_ ln pl os ou rd sp rw Y) (.inl (some (.int (nI (nl pl o s (K + Mo)))), (RM P K Mo co dr sz al us by_ ln pl os ou rd sp rw Y))) := by
  refine Con.of ?_
  refine J.iconst d_R_lost_0 (v := nI 0) (by decide) ?_
  refine J.istore_n d_R_lost_1 rfl (by decide) rfl ?_
  refine J.iconst d_R_lost_2 (v := nI 0) (by decide) ?_
  refine J.istore d_R_lost_3 (by decide) rfl ?_
  exact lp_R_lost ho hs hS hp (K + Mo) 0 (by omega)
theorem lp_R_worked {h t : Nat} (hK4 : K ≤ 4) (hS : K + Mo ≤ 7) (hh : h < K + Mo) (ht : t < 4) (hsp : ∀ i, sp i < 256) : ∀ (j i : Nat), i + j = K →
    J l i_R_worked 5 [(0, .ref 15), (1, .int (nI h)), (2, .int (nI t)), (3, .int (nI (wk K sp h t i))), (4, .int (nI i))] [] (RM P K Mo co dr sz al us by_ ln pl os ou rd sp rw Y) 0 0 (.inl (some (.int (nI (wk K sp h t K))), (RM P K Mo co dr sz al us by_ ln pl os ou rd sp rw Y)))
  | 0, i, hi => by
    refine J.iload d_R_worked_5 rfl ?_
    refine J.aload_n d_R_worked_7 rfl rfl ?_
    refine J.getfield d_R_worked_8 fl_R_44 rfl rfl ?_
    refine J.icmp_geN d_R_worked_11 (tgt := 44) (by decide) (by omega) (by omega) (fun hq => ?_) (fun hq => ?_)
    · rw [show i = K by omega]
      refine J.iload_n d_R_worked_44 rfl rfl ?_
      exact J.ireturn d_R_worked_45 rfl (by decide) (by decide)
    · omega
  | j + 1, i, hi => by
    have ih := lp_R_worked hK4 hS hh ht hsp j (i + 1) (by omega)
    have e : wk K sp h t (i + 1) = wk K sp h t i ^^^ gm (fac K (h * K + i)) (sp (4 * i + t)) := by
      show _ ^^^ gm _ (sp (i * 4 + t)) = _
      rw [Nat.mul_comm i 4]
    rw [e] at ih
    refine J.iload d_R_worked_5 rfl ?_
    refine J.aload_n d_R_worked_7 rfl rfl ?_
    refine J.getfield d_R_worked_8 fl_R_44 rfl rfl ?_
    refine J.icmp_geN d_R_worked_11 (tgt := 44) (by decide) (by omega) (by omega) (fun hq => ?_) (fun hq => ?_)
    · omega
    refine J.iload_n d_R_worked_14 rfl rfl ?_
    refine J.aload_n d_R_worked_15 rfl rfl ?_
    refine J.iload_n d_R_worked_16 rfl rfl ?_
    refine J.iload d_R_worked_17 rfl ?_
    refine J.v2i (con_R_factor hh (by omega) hK4 hS) k_R_worked_R_factor d_R_worked_19 rfl rfl rfl ?_
    refine J.aload_n d_R_worked_22 rfl rfl ?_
    refine J.getfield d_R_worked_23 fl_R_38 rfl rfl ?_
    refine J.iconst d_R_worked_26 (v := nI 4) (by decide) ?_
    refine J.iload d_R_worked_27 rfl ?_
    refine J.imulN d_R_worked_29 ?_
    refine J.iload_n d_R_worked_30 rfl rfl ?_
    refine J.iaddN d_R_worked_31 ?_
    refine J.ialoadN d_R_worked_32 rfl (by omega) (by omega) ?_
    refine J.s2i (con_R_times (fac_lt K _) (hsp _) _) k_R_worked_R_times d_R_worked_33 rfl ?_
    refine J.ixorN d_R_worked_36 ?_
    refine J.istore_n d_R_worked_37 rfl (by decide) rfl ?_
    refine J.iincN d_R_worked_38 rfl rfl (by decide) rfl ?_
    refine J.goto d_R_worked_41 (tgt := 5) (by decide) ?_
    exact ih
/-- products by one and by nothing -/
theorem gm_one_tab : (List.range 256).all (fun x => decide (gm 1 x = x ∧ gm 0 x = 0)) = true := by decide +kernel
theorem gm_one {x : Nat} (h : x < 256) : gm 1 x = x ∧ gm 0 x = 0 := by
  have := List.all_eq_true.mp gm_one_tab x (List.mem_range.mpr h)
  simpa using this
theorem wk_data {K : Nat} {da : Nat → Nat} {h t : Nat} (hda : ∀ i, da i < 256) (hh : h < K) : ∀ n, n ≤ K → wk K da h t n = if h < n then da (h * 4 + t) else 0
  | 0, _ => by simp [wk]
  | n + 1, hn => by
    have e : fac K (h * K + n) = if h = n then 1 else 0 := by
      unfold fac
      rw [dm_div (by omega), dm_mod (by omega), if_pos hh]
    have g := gm_one (hda (n * 4 + t))
    show wk K da h t n ^^^ gm (fac K (h * K + n)) (da (n * 4 + t)) = _
    rw [wk_data hda hh n (by omega), e]
    by_cases hn2 : h = n
    · subst hn2
      rw [if_pos rfl, g.1, if_neg (Nat.lt_irrefl _), if_pos (Nat.lt_succ_self _), Nat.zero_xor]
    · rw [if_neg hn2, g.2, Nat.xor_zero]
      by_cases h3 : h < n
      · rw [if_pos h3, if_pos (by omega)]
      · rw [if_neg h3, if_neg (by omega)]
theorem wk_sb {K : Nat} {da : Nat → Nat} {h t : Nat} (hda : ∀ i, da i < 256) : wk K da h t K = sb K da h t := by
  unfold sb
  by_cases hh : h < K
  · rw [if_pos hh, wk_data hda hh K (Nat.le_refl _), if_pos hh]
  · rw [if_neg hh]
theorem con_R_worked {h t : Nat} (hK4 : K ≤ 4) (hS : K + Mo ≤ 7) (hh : h < K + Mo) (ht : t < 4) (hsp : ∀ i, sp i < 256) : Con l i_R_worked [.ref 15, .int (nI h), .int (nI t)] (RM P K Mo co dr sz al us by_ ln pl os ou rd sp rw Y) (.inl (some (.int (nI (sb K sp h t))), (RM P K Mo co dr sz al us by_ ln pl os ou rd sp rw Y))) := by
  rw [← wk_sb hsp]
  refine Con.of ?_
  refine J.iconst d_R_worked_0 (v := nI 0) (by decide) ?_
  refine J.istore_n d_R_worked_1 rfl (by decide) rfl ?_
  refine J.iconst d_R_worked_2 (v := nI 0) (by decide) ?_
  refine J.istore d_R_worked_3 (by decide) rfl ?_
  exact lp_R_worked hK4 hS hh ht hsp K 0 (by omega)
/-- the free slots ahead of n -/
theorem cs1_le {f : Nat → Nat} (h : ∀ i, f i < 2) (n : Nat) : cs f n ≤ n := by
  have := cs_le (f := f) (b := 1) (fun i => by have := h i; omega) n
  omega
theorem lp_R_free {d : Nat} (hd : d < 8) (h2 : ∀ i, us i < 2) (ha : ∀ i, al i < 2) : ∀ (j i : Nat), i + j = 10 →
    J l i_R_free 4 [(0, .ref 15), (1, .int (nI d)), (2, .int (nI (i - cs (fun s => us (10 * d + s)) i))), (3, .int (nI i))] [] (RM P K Mo co dr sz al us by_ ln pl os ou rd sp rw Y) 0 0 (.inl (some (.int (nI (if al d = 0 then 0 else 10 - ud us d))), (RM P K Mo co dr sz al us by_ ln pl os ou rd sp rw Y)))
  | 0, i, hi => by
    have hi' : i = 10 := by omega
    subst hi'
    have hu := ud_le h2 d
    have had := ha d
    refine J.iload_n d_R_free_4 rfl rfl ?_
    refine J.bipush d_R_free_5 (v := nI 10) (by decide) ?_
    refine J.icmp_geN d_R_free_7 (tgt := 38) (by decide) (by omega) (by omega) (fun h => ?_) (fun h => ?_)
    · refine J.aload_n d_R_free_38 rfl rfl ?_
      refine J.getfield d_R_free_39 fl_R_13 rfl rfl ?_
      refine J.iload_n d_R_free_42 rfl rfl ?_
      refine J.baloadN d_R_free_43 rfl (by omega) (by omega) ?_
      refine J.if_eqN d_R_free_44 (tgt := 51) (by decide) (by omega) (fun h3 => ?_) (fun h3 => ?_)
      · rw [if_pos h3]
        refine J.iconst d_R_free_51 (v := nI 0) (by decide) ?_
        exact J.ireturn d_R_free_52 rfl (by decide) (by decide)
      · rw [if_neg h3]
        refine J.iload_n d_R_free_47 rfl rfl ?_
        refine J.goto d_R_free_48 (tgt := 52) (by decide) ?_
        exact J.ireturn d_R_free_52 rfl (by decide) (by decide)
    · omega
  | j + 1, i, hi => by
    have ih := lp_R_free hd h2 ha j (i + 1) (by omega)
    have hui := h2 (10 * d + i)
    have hle := cs1_le (f := fun s => us (10 * d + s)) (fun s => h2 _) i
    have e : cs (fun s => us (10 * d + s)) (i + 1) = cs (fun s => us (10 * d + s)) i + us (10 * d + i) := rfl
    rw [e] at ih
    refine J.iload_n d_R_free_4 rfl rfl ?_
    refine J.bipush d_R_free_5 (v := nI 10) (by decide) ?_
    refine J.icmp_geN d_R_free_7 (tgt := 38) (by decide) (by omega) (by omega) (fun h => ?_) (fun h => ?_)
    · omega
    refine J.aload_n d_R_free_10 rfl rfl ?_
    refine J.getfield d_R_free_11 fl_R_17 rfl rfl ?_
    refine J.bipush d_R_free_14 (v := nI 10) (by decide) ?_
    refine J.iload_n d_R_free_16 rfl rfl ?_
    refine J.imulN d_R_free_17 ?_
    refine J.iload_n d_R_free_18 rfl rfl ?_
    refine J.iaddN d_R_free_19 ?_
    refine J.baloadN d_R_free_20 rfl (by omega) (by omega) ?_
    refine J.if_eqN d_R_free_21 (tgt := 28) (by decide) (by omega) (fun h3 => ?_) (fun h3 => ?_)
    · rw [h3, show i + 1 - (cs (fun s => us (10 * d + s)) i + 0) = i - cs (fun s => us (10 * d + s)) i + 1 by omega] at ih
      refine J.iload_n d_R_free_28 rfl rfl ?_
      refine J.iconst d_R_free_29 (v := nI 1) (by decide) ?_
      refine J.iaddN d_R_free_30 ?_
      refine J.istore_n d_R_free_31 rfl (by decide) rfl ?_
      refine J.iincN d_R_free_32 rfl rfl (by decide) rfl ?_
      refine J.goto d_R_free_35 (tgt := 4) (by decide) ?_
      exact ih
    · rw [show us (10 * d + i) = 1 by omega, show i + 1 - (cs (fun s => us (10 * d + s)) i + 1) = i - cs (fun s => us (10 * d + s)) i by omega] at ih
      refine J.iload_n d_R_free_24 rfl rfl ?_
      refine J.goto d_R_free_25 (tgt := 31) (by decide) ?_
      refine J.istore_n d_R_free_31 rfl (by decide) rfl ?_
      refine J.iincN d_R_free_32 rfl rfl (by decide) rfl ?_
      refine J.goto d_R_free_35 (tgt := 4) (by decide) ?_
      exact ih
theorem con_R_free {d : Nat} (hd : d < 8) (h2 : ∀ i, us i < 2) (ha : ∀ i, al i < 2) : Con l i_R_free [.ref 15, .int (nI d)] (RM P K Mo co dr sz al us by_ ln pl os ou rd sp rw Y) (.inl (some (.int (nI (if al d = 0 then 0 else 10 - ud us d))), (RM P K Mo co dr sz al us by_ ln pl os ou rd sp rw Y))) := by
  refine Con.of ?_
  refine J.iconst d_R_free_0 (v := nI 0) (by decide) ?_
  refine J.istore_n d_R_free_1 rfl (by decide) rfl ?_
  refine J.iconst d_R_free_2 (v := nI 0) (by decide) ?_
  refine J.istore_n d_R_free_3 rfl (by decide) rfl ?_
  exact lp_R_free hd h2 ha 10 0 (by omega)
end REF
end
section
/-! Where a shard goes, a shard laid, an object cleared: the reference's side -/
section REFLAY
variable {l : Launch} {P : Nat → va_E} {K Mo co sz os : Nat} {dr al us by_ ln pl ou rd sp rw : Nat → Nat} {Y : List va_E}
theorem bdS_most (al us pl : Nat → Nat) (o s Sh : Nat) : ∀ d, ((bdS al us pl o s Sh d).1 = 0 → (bdS al us pl o s Sh d).2 = 0) ∧ ((bdS al us pl o s Sh d).1 ≠ 0 → (bdS al us pl o s Sh d).2 = 10 - ud us ((bdS al us pl o s Sh d).1 - 1))
  | 0 => ⟨fun _ => rfl, fun h => absurd rfl h⟩
  | d + 1 => by
    have ih := bdS_most al us pl o s Sh d
    unfold bdS; split
    · exact ⟨fun h => absurd h (Nat.succ_ne_zero _), fun _ => by simp⟩
    · exact ih
/-- the disk has room, and none of the stripe's first i shards -/
def opn (al us pl : Nat → Nat) (o s d i : Nat) : Bool := decide (0 < (if al d = 0 then 0 else 10 - ud us d)) && !(anyB (fun h => od10 d (pl (56 * o + 7 * s + h))) i)
theorem lp_R_open {o s d : Nat} (ho : o < 6) (hs : s < 8) (hd : d < 8) (hS : K + Mo ≤ 7) (hp : ∀ i, pl i ≤ 80) {b : Value} {out : Out}
    (kk : J l i_R_slotFor 85 [(0, .ref 15), (1, .int (nI o)), (2, .int (nI s)), (3, b), (4, .int (nI d)), (5, .int (nI (b2n (opn al us pl o s d (K + Mo)))))] [] (RM P K Mo co dr sz al us by_ ln pl os ou rd sp rw Y) 0 0 out) : ∀ (j i : Nat), i + j = K + Mo →
    J l i_R_slotFor 31 [(0, .ref 15), (1, .int (nI o)), (2, .int (nI s)), (3, b), (4, .int (nI d)), (5, .int (nI (b2n (opn al us pl o s d i)))), (6, .int (nI i))] [] (RM P K Mo co dr sz al us by_ ln pl os ou rd sp rw Y) 0 0 out
  | 0, i, hi => by
    have hi' : i = K + Mo := by omega
    rw [hi']
    refine J.iload d_R_slotFor_31 rfl ?_
    refine J.aload_n d_R_slotFor_33 rfl rfl ?_
    refine J.v0i con_R_shards k_R_slotFor_R_shards d_R_slotFor_34 rfl rfl rfl ?_
    refine J.icmp_geN d_R_slotFor_37 (tgt := 85) (by decide) (by omega) (by omega) (fun h => ?_) (fun h => ?_)
    · exact J.sub [0, 1, 2, 3, 4, 5] kk
    · omega
  | j + 1, i, hi => by
    have ih := lp_R_open ho hs hd hS hp kk j (i + 1) (by omega)
    have hpi := hp (56 * o + 7 * s + i)
    have hbt : b2n true = 1 := rfl
    have hbf : b2n false = 0 := rfl
    have e : opn al us pl o s d (i + 1) = (opn al us pl o s d i && !(od10 d (pl (56 * o + 7 * s + i)))) := by
      unfold opn
      show (_ && !(anyB _ i || _)) = _
      rw [Bool.not_or, Bool.and_assoc]
    rw [e] at ih
    refine J.iload d_R_slotFor_31 rfl ?_
    refine J.aload_n d_R_slotFor_33 rfl rfl ?_
    refine J.v0i con_R_shards k_R_slotFor_R_shards d_R_slotFor_34 rfl rfl rfl ?_
    refine J.icmp_geN d_R_slotFor_37 (tgt := 85) (by decide) (by omega) (by omega) (fun h => ?_) (fun h => ?_)
    · omega
    cases hz : opn al us pl o s d i with
    | false =>
      rw [hz] at ih
      refine J.iload d_R_slotFor_40 rfl ?_
      refine J.if_eqN d_R_slotFor_42 (tgt := 76) (by decide) (by omega) (fun h2 => ?_) (fun h2 => ?_)
      · refine J.iconst d_R_slotFor_76 (v := nI 0) (by decide) ?_
        refine J.istore d_R_slotFor_77 (by decide) rfl ?_
        refine J.iincN d_R_slotFor_79 rfl rfl (by decide) rfl ?_
        refine J.goto d_R_slotFor_82 (tgt := 31) (by decide) ?_
        exact ih
      · exact absurd rfl h2
    | true =>
      rw [hz] at ih
      refine J.iload d_R_slotFor_40 rfl ?_
      refine J.if_eqN d_R_slotFor_42 (tgt := 76) (by decide) (by omega) (fun h2 => ?_) (fun h2 => ?_)
      · exact absurd h2 (by decide)
      refine J.aload_n d_R_slotFor_45 rfl rfl ?_
      refine J.iload_n d_R_slotFor_46 rfl rfl ?_
      refine J.iload_n d_R_slotFor_47 rfl rfl ?_
      refine J.iload d_R_slotFor_48 rfl ?_
      rcases Nat.eq_zero_or_pos (pl (56 * o + 7 * s + i)) with h0 | h0
      · have e3 : od10 d (pl (56 * o + 7 * s + i)) = false := by simp [od10, h0]
        rw [e3] at ih
        refine J.v3i (con_R_place ho hs (by omega)) k_R_slotFor_R_place d_R_slotFor_50 rfl rfl rfl ?_
        refine J.if_ltP d_R_slotFor_53 (tgt := 72) (by decide) (by omega) (fun _ => ?_) (fun q => absurd h0 (by omega))
        refine J.iconst d_R_slotFor_72 (v := nI 1) (by decide) ?_
        refine J.goto d_R_slotFor_73 (tgt := 77) (by decide) ?_
        refine J.istore d_R_slotFor_77 (by decide) rfl ?_
        refine J.iincN d_R_slotFor_79 rfl rfl (by decide) rfl ?_
        refine J.goto d_R_slotFor_82 (tgt := 31) (by decide) ?_
        exact ih
      · have hc := con_R_place (l := l) (P := P) (K := K) (Mo := Mo) (co := co) (sz := sz) (os := os) (dr := dr) (al := al) (us := us) (by_ := by_) (ln := ln) (pl := pl) (ou := ou) (rd := rd) (sp := sp) (rw := rw) (Y := Y) ho hs (show i < 7 by omega)
        obtain ⟨p, ep⟩ : ∃ p, pl (56 * o + 7 * s + i) = p + 1 := ⟨pl (56 * o + 7 * s + i) - 1, by omega⟩
        rw [ep, pI_succ] at hc
        refine J.v3i hc k_R_slotFor_R_place d_R_slotFor_50 rfl rfl rfl ?_
        refine J.if_ltN d_R_slotFor_53 (tgt := 72) (by decide) (by omega) (fun _ => ?_)
        refine J.aload_n d_R_slotFor_56 rfl rfl ?_
        refine J.iload_n d_R_slotFor_57 rfl rfl ?_
        refine J.iload_n d_R_slotFor_58 rfl rfl ?_
        refine J.iload d_R_slotFor_59 rfl ?_
        refine J.v3i hc k_R_slotFor_R_place d_R_slotFor_61 rfl rfl rfl ?_
        refine J.bipush d_R_slotFor_64 (v := nI 10) (by decide) ?_
        refine J.idivN d_R_slotFor_66 (by omega) (by omega) (by omega) ?_
        refine J.iload d_R_slotFor_67 rfl ?_
        refine J.icmp_eqN d_R_slotFor_69 (tgt := 76) (by decide) (by omega) (by omega) (fun h3 => ?_) (fun h3 => ?_)
        · have e3 : od10 d (pl (56 * o + 7 * s + i)) = true := by simp [od10, ep, h3]
          rw [e3] at ih
          refine J.iconst d_R_slotFor_76 (v := nI 0) (by decide) ?_
          refine J.istore d_R_slotFor_77 (by decide) rfl ?_
          refine J.iincN d_R_slotFor_79 rfl rfl (by decide) rfl ?_
          refine J.goto d_R_slotFor_82 (tgt := 31) (by decide) ?_
          exact ih
        · have e3 : od10 d (pl (56 * o + 7 * s + i)) = false := by simp [od10, ep, h3]
          rw [e3] at ih
          refine J.iconst d_R_slotFor_72 (v := nI 1) (by decide) ?_
          refine J.goto d_R_slotFor_73 (tgt := 77) (by decide) ?_
          refine J.istore d_R_slotFor_77 (by decide) rfl ?_
          refine J.iincN d_R_slotFor_79 rfl rfl (by decide) rfl ?_
          refine J.goto d_R_slotFor_82 (tgt := 31) (by decide) ?_
          exact ih
theorem lp_R_slot {o s : Nat} (ho : o < 6) (hs : s < 8) (hS : K + Mo ≤ 7) (hp : ∀ i, pl i ≤ 80) (h2 : ∀ i, us i < 2) (ha : ∀ i, al i < 2) {out : Out}
    (kk : J l i_R_slotFor 121 [(0, .ref 15), (1, .int (nI o)), (2, .int (nI s)), (3, .int (pI (bdS al us pl o s (K + Mo) 8).1)), (4, .int (nI 8))] [] (RM P K Mo co dr sz al us by_ ln pl os ou rd sp rw Y) 0 0 out) : ∀ (j i : Nat), i + j = 8 →
    J l i_R_slotFor 5 [(0, .ref 15), (1, .int (nI o)), (2, .int (nI s)), (3, .int (pI (bdS al us pl o s (K + Mo) i).1)), (4, .int (nI i))] [] (RM P K Mo co dr sz al us by_ ln pl os ou rd sp rw Y) 0 0 out
  | 0, i, hi => by
    have hi' : i = 8 := by omega
    rw [hi']
    refine J.iload d_R_slotFor_5 rfl ?_
    refine J.bipush d_R_slotFor_7 (v := nI 8) (by decide) ?_
    refine J.icmp_geN d_R_slotFor_9 (tgt := 121) (by decide) (by omega) (by omega) (fun h => ?_) (fun h => ?_)
    · exact kk
    · omega
  | j + 1, i, hi => by
    have hi8 : i < 8 := by omega
    have ih := lp_R_slot ho hs hS hp h2 ha kk j (i + 1) (by omega)
    have hle := bdS_le al us pl o s (K + Mo) i
    have hmo := bdS_most al us pl o s (K + Mo) i
    have hfr := bdS_free al us pl o s (K + Mo) i
    have hu := ud_le h2 i
    have hbt : b2n true = 1 := rfl
    have hbf : b2n false = 0 := rfl
    have no : ¬ (al i ≠ 0 ∧ (bdS al us pl o s (K + Mo) i).2 < 10 - ud us i ∧ onD pl o s (K + Mo) i = false) → bdS al us pl o s (K + Mo) (i + 1) = bdS al us pl o s (K + Mo) i := fun hn => by
      show (if _ then _ else _) = _
      rw [if_neg hn]
    have yes : (al i ≠ 0 ∧ (bdS al us pl o s (K + Mo) i).2 < 10 - ud us i ∧ onD pl o s (K + Mo) i = false) → bdS al us pl o s (K + Mo) (i + 1) = (i + 1, 10 - ud us i) := fun hn => by
      show (if _ then _ else _) = _
      rw [if_pos hn]
    have hfi : (if al i = 0 then 0 else 10 - ud us i) < 2 ^ 31 := by split <;> omega
    have inner : J l i_R_slotFor 85 [(0, .ref 15), (1, .int (nI o)), (2, .int (nI s)), (3, .int (pI (bdS al us pl o s (K + Mo) i).1)), (4, .int (nI i)), (5, .int (nI (b2n (opn al us pl o s i (K + Mo)))))] [] (RM P K Mo co dr sz al us by_ ln pl os ou rd sp rw Y) 0 0 out := by
      cases hz : opn al us pl o s i (K + Mo) with
      | false =>
        have hn : ¬ (al i ≠ 0 ∧ (bdS al us pl o s (K + Mo) i).2 < 10 - ud us i ∧ onD pl o s (K + Mo) i = false) := by
          rintro ⟨z1, z2, z3⟩
          unfold opn at hz
          rw [if_neg z1] at hz
          unfold onD at z3
          rw [z3, decide_eq_true (by omega)] at hz
          exact absurd hz (by decide)
        rw [no hn] at ih
        refine J.iload d_R_slotFor_85 rfl ?_
        refine J.if_eqN d_R_slotFor_87 (tgt := 113) (by decide) (by omega) (fun h3 => ?_) (fun h3 => ?_)
        · refine J.iload_n d_R_slotFor_113 rfl rfl ?_
          refine J.istore_n d_R_slotFor_114 rfl (by decide) rfl ?_
          refine J.iincN d_R_slotFor_115 rfl rfl (by decide) rfl ?_
          refine J.goto d_R_slotFor_118 (tgt := 5) (by decide) ?_
          exact J.sub [0, 1, 2, 3, 4] ih
        · exact absurd rfl h3
      | true =>
        have hz2 : al i ≠ 0 ∧ 0 < 10 - ud us i ∧ onD pl o s (K + Mo) i = false := by
          unfold opn at hz
          simp only [Bool.and_eq_true, decide_eq_true_eq, Bool.not_eq_true'] at hz
          obtain ⟨q1, q2⟩ := hz
          by_cases z : al i = 0
          · rw [if_pos z] at q1; omega
          · rw [if_neg z] at q1; exact ⟨z, q1, q2⟩
        refine J.iload d_R_slotFor_85 rfl ?_
        refine J.if_eqN d_R_slotFor_87 (tgt := 113) (by decide) (by omega) (fun h3 => ?_) (fun h3 => ?_)
        · exact absurd h3 (by decide)
        rcases Nat.eq_zero_or_pos (bdS al us pl o s (K + Mo) i).1 with hb0 | hb0
        · rw [yes ⟨hz2.1, by rw [hmo.1 hb0]; exact hz2.2.1, hz2.2.2⟩] at ih
          dsimp only at ih
          rw [pI_succ] at ih
          refine J.iload_n d_R_slotFor_90 rfl rfl ?_
          refine J.if_ltP d_R_slotFor_91 (tgt := 108) (by decide) (by omega) (fun _ => ?_) (fun q => absurd hb0 (by omega))
          refine J.iload d_R_slotFor_108 rfl ?_
          refine J.goto d_R_slotFor_110 (tgt := 114) (by decide) ?_
          refine J.istore_n d_R_slotFor_114 rfl (by decide) rfl ?_
          refine J.iincN d_R_slotFor_115 rfl rfl (by decide) rfl ?_
          refine J.goto d_R_slotFor_118 (tgt := 5) (by decide) ?_
          exact J.sub [0, 1, 2, 3, 4] ih
        · obtain ⟨b, eb⟩ : ∃ b, (bdS al us pl o s (K + Mo) i).1 = b + 1 := ⟨(bdS al us pl o s (K + Mo) i).1 - 1, by omega⟩
          have hm2 := hmo.2 (by omega)
          have hf2 := hfr (by omega)
          rw [eb, Nat.add_sub_cancel] at hm2 hf2
          have hb8 : b < 8 := by omega
          have hfb := con_R_free (l := l) (P := P) (K := K) (Mo := Mo) (co := co) (sz := sz) (os := os) (dr := dr) (by_ := by_) (ln := ln) (pl := pl) (ou := ou) (rd := rd) (sp := sp) (rw := rw) (Y := Y) hb8 h2 ha
          rw [if_neg hf2.2] at hfb
          have hfi2 := con_R_free (l := l) (P := P) (K := K) (Mo := Mo) (co := co) (sz := sz) (os := os) (dr := dr) (by_ := by_) (ln := ln) (pl := pl) (ou := ou) (rd := rd) (sp := sp) (rw := rw) (Y := Y) hi8 h2 ha
          rw [if_neg hz2.1] at hfi2
          have goal2 : J l i_R_slotFor 90 [(0, .ref 15), (1, .int (nI o)), (2, .int (nI s)), (3, .int (nI b)), (4, .int (nI i)), (5, .int (nI (b2n true)))] [] (RM P K Mo co dr sz al us by_ ln pl os ou rd sp rw Y) 0 0 out := by
            refine J.iload_n d_R_slotFor_90 rfl rfl ?_
            refine J.if_ltN d_R_slotFor_91 (tgt := 108) (by decide) (by omega) (fun _ => ?_)
            refine J.aload_n d_R_slotFor_94 rfl rfl ?_
            refine J.iload d_R_slotFor_95 rfl ?_
            refine J.v1i hfi2 k_R_slotFor_R_free d_R_slotFor_97 rfl rfl rfl ?_
            refine J.aload_n d_R_slotFor_100 rfl rfl ?_
            refine J.iload_n d_R_slotFor_101 rfl rfl ?_
            refine J.v1i hfb k_R_slotFor_R_free d_R_slotFor_102 rfl rfl rfl ?_
            refine J.icmp_leN d_R_slotFor_105 (tgt := 113) (by decide) (by omega) (by omega) (fun h4 => ?_) (fun h4 => ?_)
            · rw [no (fun z => by omega), eb, pI_succ] at ih
              refine J.iload_n d_R_slotFor_113 rfl rfl ?_
              refine J.istore_n d_R_slotFor_114 rfl (by decide) rfl ?_
              refine J.iincN d_R_slotFor_115 rfl rfl (by decide) rfl ?_
              refine J.goto d_R_slotFor_118 (tgt := 5) (by decide) ?_
              exact J.sub [0, 1, 2, 3, 4] ih
            · rw [yes ⟨hz2.1, by omega, hz2.2.2⟩] at ih
              dsimp only at ih
              rw [pI_succ] at ih
              refine J.iload d_R_slotFor_108 rfl ?_
              refine J.goto d_R_slotFor_110 (tgt := 114) (by decide) ?_
              refine J.istore_n d_R_slotFor_114 rfl (by decide) rfl ?_
              refine J.iincN d_R_slotFor_115 rfl rfl (by decide) rfl ?_
              refine J.goto d_R_slotFor_118 (tgt := 5) (by decide) ?_
              exact J.sub [0, 1, 2, 3, 4] ih
          rw [eb, pI_succ]
          exact goal2
    refine J.iload d_R_slotFor_5 rfl ?_
    refine J.bipush d_R_slotFor_7 (v := nI 8) (by decide) ?_
    refine J.icmp_geN d_R_slotFor_9 (tgt := 121) (by decide) (by omega) (by omega) (fun h => ?_) (fun h => ?_)
    · omega
    refine J.aload_n d_R_slotFor_12 rfl rfl ?_
    refine J.iload d_R_slotFor_13 rfl ?_
    refine J.v1i (con_R_free hi8 h2 ha) k_R_slotFor_R_free d_R_slotFor_15 rfl rfl rfl ?_
    have hop : b2n (opn al us pl o s i 0) = if 0 < (if al i = 0 then 0 else 10 - ud us i) then 1 else 0 := by
      unfold opn b2n anyB
      by_cases z : 0 < (if al i = 0 then 0 else 10 - ud us i) <;> simp [z]
    refine J.if_leN d_R_slotFor_18 (tgt := 25) (by decide) (by omega) (fun h4 => ?_) (fun h4 => ?_)
    · rw [if_neg (by omega)] at hop
      refine J.iconst d_R_slotFor_25 (v := nI 0) (by decide) ?_
      refine J.istore d_R_slotFor_26 (by decide) rfl ?_
      refine J.iconst d_R_slotFor_28 (v := nI 0) (by decide) ?_
      refine J.istore d_R_slotFor_29 (by decide) rfl ?_
      have hh := lp_R_open ho hs hi8 hS hp inner (K + Mo) 0 (by omega)
      rw [hop] at hh
      exact hh
    · rw [if_pos (by omega)] at hop
      refine J.iconst d_R_slotFor_21 (v := nI 1) (by decide) ?_
      refine J.goto d_R_slotFor_22 (tgt := 26) (by decide) ?_
      refine J.istore d_R_slotFor_26 (by decide) rfl ?_
      refine J.iconst d_R_slotFor_28 (v := nI 0) (by decide) ?_
      refine J.istore d_R_slotFor_29 (by decide) rfl ?_
      have hh := lp_R_open ho hs hi8 hS hp inner (K + Mo) 0 (by omega)
      rw [hop] at hh
      exact hh
theorem lp_R_first {b o s : Nat} (hb : b < 8) (f1 : ff us b < 10) (f2 : us (10 * b + ff us b) = 0) (f3 : ∀ x, x < ff us b → us (10 * b + x) = 1) : ∀ (j i : Nat), i + j = ff us b →
    J l i_R_slotFor 133 [(0, .ref 15), (1, .int (nI o)), (2, .int (nI s)), (3, .int (nI b)), (4, .int (nI (10 * b + i)))] [] (RM P K Mo co dr sz al us by_ ln pl os ou rd sp rw Y) 0 0 (.inl (some (.int (nI (10 * b + ff us b))), (RM P K Mo co dr sz al us by_ ln pl os ou rd sp rw Y)))
  | 0, i, hi => by
    have hi' : i = ff us b := by omega
    rw [hi']
    refine J.aload_n d_R_slotFor_133 rfl rfl ?_
    refine J.getfield d_R_slotFor_134 fl_R_17 rfl rfl ?_
    refine J.iload d_R_slotFor_137 rfl ?_
    refine J.baloadN d_R_slotFor_139 rfl (by omega) (by omega) ?_
    rw [f2]
    refine J.if_eqN d_R_slotFor_140 (tgt := 149) (by decide) (by omega) (fun h => ?_) (fun h => ?_)
    · refine J.iload d_R_slotFor_149 rfl ?_
      exact J.ireturn d_R_slotFor_151 rfl (by decide) (by decide)
    · exact absurd rfl h
  | j + 1, i, hi => by
    have h1 := f3 i (by omega)
    refine J.aload_n d_R_slotFor_133 rfl rfl ?_
    refine J.getfield d_R_slotFor_134 fl_R_17 rfl rfl ?_
    refine J.iload d_R_slotFor_137 rfl ?_
    refine J.baloadN d_R_slotFor_139 rfl (by omega) (by omega) ?_
    rw [h1]
    refine J.if_eqN d_R_slotFor_140 (tgt := 149) (by decide) (by omega) (fun h => ?_) (fun h => ?_)
    · exact absurd h (by decide)
    · refine J.iincN d_R_slotFor_143 rfl rfl (by decide) rfl ?_
      refine J.goto d_R_slotFor_146 (tgt := 133) (by decide) ?_
      exact lp_R_first hb f1 f2 f3 j (i + 1) (by omega)
theorem con_R_slotFor {o s : Nat} (ho : o < 6) (hs : s < 8) (hS : K + Mo ≤ 7) (hp : ∀ i, pl i ≤ 80) (h2 : ∀ i, us i < 2) (ha : ∀ i, al i < 2) : Con l i_R_slotFor [.ref 15, .int (nI o), .int (nI s)] (RM P K Mo co dr sz al us by_ ln pl os ou rd sp rw Y) (.inl (some (.int (pI (gp al us pl o s (K + Mo)))), (RM P K Mo co dr sz al us by_ ln pl os ou rd sp rw Y))) := by
  have hle := bdS_le al us pl o s (K + Mo) 8
  refine Con.of ?_
  refine J.iconst d_R_slotFor_0 (v := pI 0) (by decide) ?_
  refine J.istore_n d_R_slotFor_1 rfl (by decide) rfl ?_
  refine J.iconst d_R_slotFor_2 (v := nI 0) (by decide) ?_
  refine J.istore d_R_slotFor_3 (by decide) rfl ?_
  refine lp_R_slot ho hs hS hp h2 ha ?_ 8 0 (by omega)
  rcases Nat.eq_zero_or_pos (bdS al us pl o s (K + Mo) 8).1 with hb0 | hb0
  · have eg : gp al us pl o s (K + Mo) = 0 := by unfold gp; rw [if_pos hb0]
    rw [eg]
    refine J.iload_n d_R_slotFor_121 rfl rfl ?_
    refine J.if_geP d_R_slotFor_122 (tgt := 127) (by decide) (by omega) (fun q => absurd hb0 (by omega)) (fun _ => ?_)
    refine J.iconst d_R_slotFor_125 (v := pI 0) (by decide) ?_
    exact J.ireturn d_R_slotFor_126 rfl (by decide) (by decide)
  · obtain ⟨b, eb⟩ : ∃ b, (bdS al us pl o s (K + Mo) 8).1 = b + 1 := ⟨(bdS al us pl o s (K + Mo) 8).1 - 1, by omega⟩
    have hf := bdS_free al us pl o s (K + Mo) 8 (by omega)
    rw [eb, Nat.add_sub_cancel] at hf
    obtain ⟨f1, f2, f3⟩ := ff_spec h2 hf.1
    have eg : gp al us pl o s (K + Mo) = 10 * b + ff us b + 1 := by unfold gp; rw [if_neg (by omega), eb, Nat.add_sub_cancel]
    rw [eg, pI_succ, eb, pI_succ]
    refine J.iload_n d_R_slotFor_121 rfl rfl ?_
    refine J.if_geN d_R_slotFor_122 (tgt := 127) (by decide) (by omega) (fun _ => ?_)
    refine J.bipush d_R_slotFor_127 (v := nI 10) (by decide) ?_
    refine J.iload_n d_R_slotFor_129 rfl rfl ?_
    refine J.imulN d_R_slotFor_130 ?_
    refine J.istore d_R_slotFor_131 (by decide) rfl ?_
    exact lp_R_first (by omega) f1 f2 f3 (ff us b) 0 (by omega)
theorem lp_R_lay {p o s h : Nat} (hp80 : p < 80) (hK4 : K ≤ 4) (hS : K + Mo ≤ 7) (hh : h < K + Mo) (hsp : ∀ i, sp i < 256) : ∀ (j i : Nat), i + j = 4 →
    J l i_R_lay 44 [(0, .ref 15), (1, .int (nI o)), (2, .int (nI s)), (3, .int (nI h)), (4, .int (nI p)), (5, .int (nI i))] [] (RM P K Mo co dr sz al us (b4 by_ p (sb K sp h) i) ln pl os ou rd sp rw Y) 0 0 (.inl (some (.int (nI 1)), (RM P K Mo co dr sz al us (b4 by_ p (sb K sp h) 4) ln pl os ou rd sp rw Y)))
  | 0, i, hi => by
    have hi' : i = 4 := by omega
    rw [hi']
    refine J.iload d_R_lay_44 rfl ?_
    refine J.iconst d_R_lay_46 (v := nI 4) (by decide) ?_
    refine J.icmp_geN d_R_lay_47 (tgt := 75) (by decide) (by omega) (by omega) (fun hq => ?_) (fun hq => ?_)
    · refine J.iconst d_R_lay_75 (v := nI 1) (by decide) ?_
      first | exact J.zreturn d_R_lay_76 rfl rfl (by decide) (by decide) | exact J.zreturnN d_R_lay_76 rfl (by omega) (by decide) (by decide)
    · omega
  | j + 1, i, hi => by
    have ih := lp_R_lay (o := o) (s := s) hp80 hK4 hS hh hsp j (i + 1) (by omega)
    refine J.iload d_R_lay_44 rfl ?_
    refine J.iconst d_R_lay_46 (v := nI 4) (by decide) ?_
    refine J.icmp_geN d_R_lay_47 (tgt := 75) (by decide) (by omega) (by omega) (fun hq => ?_) (fun hq => ?_)
    · omega
    refine J.aload_n d_R_lay_50 rfl rfl ?_
    refine J.getfield d_R_lay_51 fl_R_20 rfl rfl ?_
    refine J.iconst d_R_lay_54 (v := nI 4) (by decide) ?_
    refine J.iload d_R_lay_55 rfl ?_
    refine J.imulN d_R_lay_57 ?_
    refine J.iload d_R_lay_58 rfl ?_
    refine J.iaddN d_R_lay_60 ?_
    refine J.aload_n d_R_lay_61 rfl rfl ?_
    refine J.iload_n d_R_lay_62 rfl rfl ?_
    refine J.iload d_R_lay_63 rfl ?_
    refine J.v2i (con_R_worked hK4 hS hh (by omega) hsp) k_R_lay_R_worked d_R_lay_65 rfl rfl rfl ?_
    refine J.iastoreN d_R_lay_68 rfl (by omega) (by omega) ?_
    refine J.iincN d_R_lay_69 rfl rfl (by decide) rfl ?_
    refine J.goto d_R_lay_72 (tgt := 44) (by decide) ?_
    exact ih
theorem con_R_lay {o s h : Nat} (ho : o < 6) (hs : s < 8) (hK4 : K ≤ 4) (hS : K + Mo ≤ 7) (hh : h < K + Mo) (hp : ∀ i, pl i ≤ 80) (h2 : ∀ i, us i < 2) (ha : ∀ i, al i < 2) (hsp : ∀ i, sp i < 256) (hg : gp al us pl o s (K + Mo) ≠ 0) :
    Con l i_R_lay [.ref 15, .int (nI o), .int (nI s), .int (nI h)] (RM P K Mo co dr sz al us by_ ln pl os ou rd sp rw Y) (.inl (some (.int (nI 1)), (RM P K Mo co dr sz al (up us (gp al us pl o s (K + Mo) - 1) 1) (b4 by_ (gp al us pl o s (K + Mo) - 1) (sb K sp h) 4) ln (up pl (56 * o + 7 * s + h) (gp al us pl o s (K + Mo))) os ou rd sp rw Y))) := by
  have hc := con_R_slotFor (l := l) (P := P) (K := K) (Mo := Mo) (co := co) (sz := sz) (os := os) (dr := dr) (by_ := by_) (ln := ln) (ou := ou) (rd := rd) (sp := sp) (rw := rw) (Y := Y) ho hs hS hp h2 ha
  have hle := gp_le al us pl o s (K + Mo) h2
  obtain ⟨p, ep⟩ : ∃ p, gp al us pl o s (K + Mo) = p + 1 := ⟨gp al us pl o s (K + Mo) - 1, by omega⟩
  rw [ep, pI_succ] at hc
  rw [ep, Nat.add_sub_cancel]
  have key : J l i_R_lay 23 [(0, .ref 15), (1, .int (nI o)), (2, .int (nI s)), (3, .int (nI h)), (4, .int (pI (p + 1)))] [] (RM P K Mo co dr sz al (up us p 1) by_ ln pl os ou rd sp rw Y) 0 0 (.inl (some (.int (nI 1)), (RM P K Mo co dr sz al (up us p 1) (b4 by_ p (sb K sp h) 4) ln (up pl (56 * o + 7 * s + h) (p + 1)) os ou rd sp rw Y))) := by
    refine J.aload_n d_R_lay_23 rfl rfl ?_
    refine J.getfield d_R_lay_24 fl_R_26 rfl rfl ?_
    refine J.bipush d_R_lay_27 (v := nI 56) (by decide) ?_
    refine J.iload_n d_R_lay_29 rfl rfl ?_
    refine J.imulN d_R_lay_30 ?_
    refine J.bipush d_R_lay_31 (v := nI 7) (by decide) ?_
    refine J.iload_n d_R_lay_33 rfl rfl ?_
    refine J.imulN d_R_lay_34 ?_
    refine J.iaddN d_R_lay_35 ?_
    refine J.iload_n d_R_lay_36 rfl rfl ?_
    refine J.iaddN d_R_lay_37 ?_
    refine J.iload d_R_lay_38 rfl ?_
    refine J.iastoreP d_R_lay_40 rfl (by omega) (by omega) ?_
    rw [pI_succ]
    refine J.iconst d_R_lay_41 (v := nI 0) (by decide) ?_
    refine J.istore d_R_lay_42 (by decide) rfl ?_
    exact lp_R_lay (by omega) hK4 hS hh hsp 4 0 (by omega)
  rw [pI_succ] at key
  refine Con.of ?_
  refine J.aload_n d_R_lay_0 rfl rfl ?_
  refine J.iload_n d_R_lay_1 rfl rfl ?_
  refine J.iload_n d_R_lay_2 rfl rfl ?_
  refine J.v2i hc k_R_lay_R_slotFor d_R_lay_3 rfl rfl rfl ?_
  refine J.istore d_R_lay_6 (by decide) rfl ?_
  refine J.iload d_R_lay_8 rfl ?_
  refine J.if_geN d_R_lay_10 (tgt := 15) (by decide) (by omega) (fun _ => ?_)
  refine J.aload_n d_R_lay_15 rfl rfl ?_
  refine J.getfield d_R_lay_16 fl_R_17 rfl rfl ?_
  refine J.iload d_R_lay_19 rfl ?_
  refine J.iconst d_R_lay_21 (v := nI 1) (by decide) ?_
  refine J.bastoreN d_R_lay_22 rfl (by omega) (by omega) (by omega) ?_
  exact key
theorem con_R_lay0 {o s h : Nat} (ho : o < 6) (hs : s < 8) (hS : K + Mo ≤ 7) (hp : ∀ i, pl i ≤ 80) (h2 : ∀ i, us i < 2) (ha : ∀ i, al i < 2) (hg : gp al us pl o s (K + Mo) = 0) :
    Con l i_R_lay [.ref 15, .int (nI o), .int (nI s), .int (nI h)] (RM P K Mo co dr sz al us by_ ln pl os ou rd sp rw Y) (.inl (some (.int (nI 0)), (RM P K Mo co dr sz al us by_ ln pl os ou rd sp rw Y))) := by
  have hc := con_R_slotFor (l := l) (P := P) (K := K) (Mo := Mo) (co := co) (sz := sz) (os := os) (dr := dr) (by_ := by_) (ln := ln) (ou := ou) (rd := rd) (sp := sp) (rw := rw) (Y := Y) ho hs hS hp h2 ha
  rw [hg] at hc
  refine Con.of ?_
  refine J.aload_n d_R_lay_0 rfl rfl ?_
  refine J.iload_n d_R_lay_1 rfl rfl ?_
  refine J.iload_n d_R_lay_2 rfl rfl ?_
  refine J.v2i hc k_R_lay_R_slotFor d_R_lay_3 rfl rfl rfl ?_
  refine J.istore d_R_lay_6 (by decide) rfl ?_
  refine J.iload d_R_lay_8 rfl ?_
  refine J.if_geP d_R_lay_10 (tgt := 15) (by decide) (by decide) (fun q => absurd q (by decide)) (fun _ => ?_)
  refine J.iconst d_R_lay_13 (v := nI 0) (by decide) ?_
  first | exact J.zreturn d_R_lay_14 rfl rfl (by decide) (by decide) | exact J.zreturnN d_R_lay_14 rfl (by omega) (by decide) (by decide)
/-- an object's first n places given back -/
def clS (o : Nat) (x : U2) : Nat → U2
  | 0 => x
  | i + 1 => rl1 (56 * o + i) (clS o x i)
theorem clS_b {o : Nat} {x : U2} (h : (∀ i, x.2.1 i < 2) ∧ ∀ i, x.2.2 i ≤ 80) : ∀ n, (∀ i, (clS o x n).2.1 i < 2) ∧ ∀ i, (clS o x n).2.2 i ≤ 80
  | 0 => h
  | n + 1 => rl1_b (clS_b h n)
theorem clS_le (o : Nat) (x : U2) : ∀ n, (clS o x n).1 ≤ x.1 + n
  | 0 => Nat.le_refl _
  | n + 1 => by
    have h1 := rl1_le (56 * o + n) (clS o x n)
    have h2 := clS_le o x n
    show (rl1 _ _).1 ≤ _
    omega
theorem up_same {f : Nat → Nat} {i v : Nat} (h : f i = v) : up f i v = f := by
  funext j; unfold up; split
  · rename_i e; rw [e, h]
  · rfl
theorem lp_R_clear {o : Nat} {x : U2} (hx : (∀ i, x.2.1 i < 2) ∧ ∀ i, x.2.2 i ≤ 80) (h1 : x.1 = 0) (ho : o < 6) : ∀ (j i : Nat), i + j = 56 →
    J l i_R_clear 7 [(0, .ref 15), (1, .int (nI o)), (2, .int (nI (clS o x i).1)), (3, .int (nI (56 * o + i)))] [] (RM P K Mo co dr sz al ((clS o x i).2.1) by_ ln ((clS o x i).2.2) os ou rd sp rw Y) 0 0 (.inl (some (.int (nI (clS o x 56).1)), (RM P K Mo co dr sz al ((clS o x 56).2.1) by_ (up ln o 0) ((clS o x 56).2.2) os ou rd sp rw Y)))
  | 0, i, hi => by
    have hi' : i = 56 := by omega
    rw [hi']
    refine J.iload_n d_R_clear_7 rfl rfl ?_
    refine J.bipush d_R_clear_8 (v := nI 56) (by decide) ?_
    refine J.iload_n d_R_clear_10 rfl rfl ?_
    refine J.imulN d_R_clear_11 ?_
    refine J.bipush d_R_clear_12 (v := nI 56) (by decide) ?_
    refine J.iaddN d_R_clear_14 ?_
    refine J.icmp_geN d_R_clear_15 (tgt := 55) (by decide) (by omega) (by omega) (fun h => ?_) (fun h => ?_)
    · refine J.aload_n d_R_clear_55 rfl rfl ?_
      refine J.getfield d_R_clear_56 fl_R_23 rfl rfl ?_
      refine J.iload_n d_R_clear_59 rfl rfl ?_
      refine J.iconst d_R_clear_60 (v := nI 0) (by decide) ?_
      refine J.iastoreN d_R_clear_61 rfl (by omega) (by omega) ?_
      refine J.iload_n d_R_clear_62 rfl rfl ?_
      exact J.ireturn d_R_clear_63 rfl (by decide) (by decide)
    · omega
  | j + 1, i, hi => by
    have ih := lp_R_clear (o := o) hx h1 ho j (i + 1) (by omega)
    have hb := clS_b (o := o) hx i
    have hle := clS_le o x i
    have e : clS o x (i + 1) = rl1 (56 * o + i) (clS o x i) := rfl
    rw [e] at ih
    generalize clS o x i = y at hb hle ih ⊢
    have hpi := hb.2 (56 * o + i)
    refine J.iload_n d_R_clear_7 rfl rfl ?_
    refine J.bipush d_R_clear_8 (v := nI 56) (by decide) ?_
    refine J.iload_n d_R_clear_10 rfl rfl ?_
    refine J.imulN d_R_clear_11 ?_
    refine J.bipush d_R_clear_12 (v := nI 56) (by decide) ?_
    refine J.iaddN d_R_clear_14 ?_
    refine J.icmp_geN d_R_clear_15 (tgt := 55) (by decide) (by omega) (by omega) (fun h => ?_) (fun h => ?_)
    · omega
    refine J.aload_n d_R_clear_18 rfl rfl ?_
    refine J.getfield d_R_clear_19 fl_R_26 rfl rfl ?_
    refine J.iload_n d_R_clear_22 rfl rfl ?_
    refine J.ialoadP d_R_clear_23 rfl (by omega) (by omega) ?_
    refine J.if_ltP d_R_clear_24 (tgt := 42) (by decide) (by omega) (fun q => ?_) (fun q => ?_)
    · unfold rl1 at ih
      rw [if_pos q] at ih
      refine J.aload_n d_R_clear_42 rfl rfl ?_
      refine J.getfield d_R_clear_43 fl_R_26 rfl rfl ?_
      refine J.iload_n d_R_clear_46 rfl rfl ?_
      refine J.iconst d_R_clear_47 (v := pI 0) (by decide) ?_
      refine J.iastoreP d_R_clear_48 rfl (by omega) (by omega) ?_
      refine J.iincN d_R_clear_49 rfl rfl (by decide) rfl ?_
      refine J.goto d_R_clear_52 (tgt := 7) (by decide) ?_
      rw [up_same q]
      exact ih
    · obtain ⟨p, ep⟩ : ∃ p, y.2.2 (56 * o + i) = p + 1 := ⟨y.2.2 (56 * o + i) - 1, by omega⟩
      unfold rl1 at ih
      rw [if_neg (by omega), ep, Nat.add_sub_cancel] at ih
      refine J.aload_n d_R_clear_27 rfl rfl ?_
      refine J.getfield d_R_clear_28 fl_R_17 rfl rfl ?_
      refine J.aload_n d_R_clear_31 rfl rfl ?_
      refine J.getfield d_R_clear_32 fl_R_26 rfl rfl ?_
      refine J.iload_n d_R_clear_35 rfl rfl ?_
      refine J.ialoadP d_R_clear_36 rfl (by omega) (by omega) ?_
      rw [ep, pI_succ]
      refine J.iconst d_R_clear_37 (v := nI 0) (by decide) ?_
      refine J.bastoreN d_R_clear_38 rfl (by omega) (by omega) (by omega) ?_
      refine J.iincN d_R_clear_39 rfl rfl (by decide) rfl ?_
      refine J.aload_n d_R_clear_42 rfl rfl ?_
      refine J.getfield d_R_clear_43 fl_R_26 rfl rfl ?_
      refine J.iload_n d_R_clear_46 rfl rfl ?_
      refine J.iconst d_R_clear_47 (v := pI 0) (by decide) ?_
      refine J.iastoreP d_R_clear_48 rfl (by omega) (by omega) ?_
      refine J.iincN d_R_clear_49 rfl rfl (by decide) rfl ?_
      refine J.goto d_R_clear_52 (tgt := 7) (by decide) ?_
      exact ih
theorem con_R_clear {o : Nat} (h2 : ∀ i, us i < 2) (hp : ∀ i, pl i ≤ 80) (ho : o < 6) : Con l i_R_clear [.ref 15, .int (nI o)] (RM P K Mo co dr sz al us by_ ln pl os ou rd sp rw Y) (.inl (some (.int (nI (clS o (0, us, pl) 56).1)), (RM P K Mo co dr sz al ((clS o (0, us, pl) 56).2.1) by_ (up ln o 0) ((clS o (0, us, pl) 56).2.2) os ou rd sp rw Y))) := by
  refine Con.of ?_
  refine J.iconst d_R_clear_0 (v := nI 0) (by decide) ?_
  refine J.istore_n d_R_clear_1 rfl (by decide) rfl ?_
  refine J.bipush d_R_clear_2 (v := nI 56) (by decide) ?_
  refine J.iload_n d_R_clear_4 rfl rfl ?_
  refine J.imulN d_R_clear_5 ?_
  refine J.istore_n d_R_clear_6 rfl (by decide) rfl ?_
  exact lp_R_clear (x := (0, us, pl)) ⟨h2, hp⟩ rfl ho 56 0 (by omega)
end REFLAY
end
section
/-! Reading a stripe: the reference's side -/
section REFREAD
variable {l : Launch} {P : Nat → va_E} {K Mo co sz os : Nat} {dr al us by_ ln pl ou rd sp rw : Nat → Nat} {Y : List va_E}
/-- a row's first n factors -/
def rwF (K : Nat) (rw : Nat → Nat) (k h : Nat) : Nat → Nat → Nat
  | 0 => rw
  | n + 1 => up (rwF K rw k h n) (5 * k + n) (fac K (h * K + n))
/-- the rows of the kept shards ahead of n, and how many -/
def wrS (K : Nat) (ls : Nat → Bool) (v : Nat → Nat) (rw : Nat → Nat) : Nat → Nat × (Nat → Nat)
  | 0 => (0, rw)
  | h + 1 => if (wrS K ls v rw h).1 < K ∧ ls h = false then ((wrS K ls v rw h).1 + 1, up (rwF K (wrS K ls v rw h).2 (wrS K ls v rw h).1 h K) (5 * (wrS K ls v rw h).1 + 4) (v h)) else wrS K ls v rw h
theorem wrS_le (K : Nat) (ls : Nat → Bool) (v : Nat → Nat) (rw : Nat → Nat) : ∀ n, (wrS K ls v rw n).1 ≤ K ∧ (wrS K ls v rw n).1 ≤ n
  | 0 => ⟨Nat.zero_le _, Nat.le_refl _⟩
  | n + 1 => by
    have := wrS_le K ls v rw n
    unfold wrS; split
    · rename_i h; exact ⟨h.1, by show _ + 1 ≤ _; omega⟩
    · exact ⟨this.1, by omega⟩
theorem wrS_full {K : Nat} {ls : Nat → Bool} {v rw : Nat → Nat} {n : Nat} (h : ¬ (wrS K ls v rw n).1 < K) : ∀ j, wrS K ls v rw (n + j) = wrS K ls v rw n
  | 0 => rfl
  | j + 1 => by
    have ih := wrS_full h j
    show (if (wrS K ls v rw (n + j)).1 < K ∧ _ then _ else wrS K ls v rw (n + j)) = _
    rw [if_neg (fun z => h (by rw [← ih]; exact z.1))]
    exact ih
theorem rwF_lt {K : Nat} {rw : Nat → Nat} {k h : Nat} (hr : ∀ i, rw i < 256) : ∀ n i, rwF K rw k h n i < 256
  | 0, i => hr i
  | n + 1, i => up_lt (rwF_lt hr n) (fac_lt K _) i
theorem wrS_lt {K : Nat} {ls : Nat → Bool} {v rw : Nat → Nat} (hr : ∀ i, rw i < 256) (hv : ∀ h, v h < 256) : ∀ n i, (wrS K ls v rw n).2 i < 256
  | 0, i => hr i
  | n + 1, i => by
    unfold wrS; split
    · exact up_lt (rwF_lt (wrS_lt hr hv n) K) (hv n) i
    · exact wrS_lt hr hv n i
theorem lp_R_wr1 {o s t k h : Nat} (ho : o < 6) (hs : s < 8) (hK4 : K ≤ 4) (hS : K + Mo ≤ 7) (hh : h < K + Mo) (hk : k < K) {out : Out}
    (kk : J l i_R_writeRows 73 [(0, .ref 15), (1, .int (nI o)), (2, .int (nI s)), (3, .int (nI t)), (4, .int (nI k)), (5, .int (nI h))] [] (RM P K Mo co dr sz al us by_ ln pl os ou rd sp (rwF K rw k h K) Y) 0 0 out) : ∀ (j i : Nat), i + j = K →
    J l i_R_writeRows 38 [(0, .ref 15), (1, .int (nI o)), (2, .int (nI s)), (3, .int (nI t)), (4, .int (nI k)), (5, .int (nI h)), (6, .int (nI i))] [] (RM P K Mo co dr sz al us by_ ln pl os ou rd sp (rwF K rw k h i) Y) 0 0 out
  | 0, i, hi => by
    have hi' : i = K := by omega
    rw [hi']
    refine J.iload d_R_writeRows_38 rfl ?_
    refine J.aload_n d_R_writeRows_40 rfl rfl ?_
    refine J.getfield d_R_writeRows_41 fl_R_44 rfl rfl ?_
    refine J.icmp_geN d_R_writeRows_44 (tgt := 73) (by decide) (by omega) (by omega) (fun hq => ?_) (fun hq => ?_)
    · exact J.sub [0, 1, 2, 3, 4, 5] kk
    · omega
  | j + 1, i, hi => by
    have ih := lp_R_wr1 ho hs hK4 hS hh hk kk j (i + 1) (by omega)
    refine J.iload d_R_writeRows_38 rfl ?_
    refine J.aload_n d_R_writeRows_40 rfl rfl ?_
    refine J.getfield d_R_writeRows_41 fl_R_44 rfl rfl ?_
    refine J.icmp_geN d_R_writeRows_44 (tgt := 73) (by decide) (by omega) (by omega) (fun hq => ?_) (fun hq => ?_)
    · omega
    refine J.aload_n d_R_writeRows_47 rfl rfl ?_
    refine J.getfield d_R_writeRows_48 fl_R_41 rfl rfl ?_
    refine J.iconst d_R_writeRows_51 (v := nI 5) (by decide) ?_
    refine J.iload d_R_writeRows_52 rfl ?_
    refine J.imulN d_R_writeRows_54 ?_
    refine J.iload d_R_writeRows_55 rfl ?_
    refine J.iaddN d_R_writeRows_57 ?_
    refine J.aload_n d_R_writeRows_58 rfl rfl ?_
    refine J.iload d_R_writeRows_59 rfl ?_
    refine J.iload d_R_writeRows_61 rfl ?_
    refine J.v2i (con_R_factor hh (by omega) hK4 hS) k_R_writeRows_R_factor d_R_writeRows_63 rfl rfl rfl ?_
    refine J.iastoreN d_R_writeRows_66 rfl (by omega) (by omega) ?_
    refine J.iincN d_R_writeRows_67 rfl rfl (by decide) rfl ?_
    refine J.goto d_R_writeRows_70 (tgt := 38) (by decide) ?_
    exact ih
theorem lp_R_wr {o s t : Nat} (ho : o < 6) (hs : s < 8) (ht : t < 4) (hK4 : K ≤ 4) (hS : K + Mo ≤ 7) (hp : ∀ i, pl i ≤ 80) : ∀ (j i : Nat), i + j = K + Mo →
    J l i_R_writeRows 6 [(0, .ref 15), (1, .int (nI o)), (2, .int (nI s)), (3, .int (nI t)), (4, .int (nI (wrS K (lsB pl o s) (fun h => vb pl by_ o s h t) rw i).1)), (5, .int (nI i))] [] (RM P K Mo co dr sz al us by_ ln pl os ou rd sp ((wrS K (lsB pl o s) (fun h => vb pl by_ o s h t) rw i).2) Y) 0 0 (.inl (none, (RM P K Mo co dr sz al us by_ ln pl os ou rd sp ((wrS K (lsB pl o s) (fun h => vb pl by_ o s h t) rw (K + Mo)).2) Y)))
  | 0, i, hi => by
    have hi' : i = K + Mo := by omega
    rw [hi']
    refine J.iload d_R_writeRows_6 rfl ?_
    refine J.aload_n d_R_writeRows_8 rfl rfl ?_
    refine J.v0i con_R_shards k_R_writeRows_R_shards d_R_writeRows_9 rfl rfl rfl ?_
    refine J.icmp_geN d_R_writeRows_12 (tgt := 110) (by decide) (by omega) (by omega) (fun hq => ?_) (fun hq => ?_)
    · exact J.vreturn d_R_writeRows_110 rfl (by decide) (by decide)
    · omega
  | j + 1, i, hi => by
    have hle := wrS_le K (lsB pl o s) (fun h => vb pl by_ o s h t) rw i
    have ih := lp_R_wr ho hs ht hK4 hS hp j (i + 1) (by omega)
    have hpi := hp (56 * o + 7 * s + i)
    refine J.iload d_R_writeRows_6 rfl ?_
    refine J.aload_n d_R_writeRows_8 rfl rfl ?_
    refine J.v0i con_R_shards k_R_writeRows_R_shards d_R_writeRows_9 rfl rfl rfl ?_
    refine J.icmp_geN d_R_writeRows_12 (tgt := 110) (by decide) (by omega) (by omega) (fun hq => ?_) (fun hq => ?_)
    · omega
    refine J.iload d_R_writeRows_15 rfl ?_
    refine J.aload_n d_R_writeRows_17 rfl rfl ?_
    refine J.getfield d_R_writeRows_18 fl_R_44 rfl rfl ?_
    refine J.icmp_geN d_R_writeRows_21 (tgt := 110) (by decide) (by omega) (by omega) (fun h2 => ?_) (fun h2 => ?_)
    · have e := wrS_full (ls := lsB pl o s) (v := fun h => vb pl by_ o s h t) (rw := rw) (K := K) (n := i) (by omega) (j + 1)
      rw [show i + (j + 1) = K + Mo by omega] at e
      rw [e]
      exact J.vreturn d_R_writeRows_110 rfl (by decide) (by decide)
    refine J.aload_n d_R_writeRows_24 rfl rfl ?_
    refine J.iload_n d_R_writeRows_25 rfl rfl ?_
    refine J.iload_n d_R_writeRows_26 rfl rfl ?_
    refine J.iload d_R_writeRows_27 rfl ?_
    rcases Nat.eq_zero_or_pos (pl (56 * o + 7 * s + i)) with h0 | h0
    · have e : wrS K (lsB pl o s) (fun h => vb pl by_ o s h t) rw (i + 1) = wrS K (lsB pl o s) (fun h => vb pl by_ o s h t) rw i := by
        show (if _ then _ else _) = _
        rw [if_neg (fun z => by have := z.2; simp [lsB, h0] at this)]
      rw [e] at ih
      refine J.v3i (con_R_place ho hs (by omega)) k_R_writeRows_R_place d_R_writeRows_29 rfl rfl rfl ?_
      refine J.if_ltP d_R_writeRows_32 (tgt := 104) (by decide) (by omega) (fun _ => ?_) (fun q => absurd h0 (by omega))
      refine J.iincN d_R_writeRows_104 rfl rfl (by decide) rfl ?_
      refine J.goto d_R_writeRows_107 (tgt := 6) (by decide) ?_
      exact ih
    · obtain ⟨p, ep⟩ : ∃ p, pl (56 * o + 7 * s + i) = p + 1 := ⟨pl (56 * o + 7 * s + i) - 1, by omega⟩
      have hc := fun (rw' : Nat → Nat) => con_R_place (l := l) (P := P) (K := K) (Mo := Mo) (co := co) (sz := sz) (os := os) (dr := dr) (al := al) (us := us) (by_ := by_) (ln := ln) (pl := pl) (ou := ou) (rd := rd) (sp := sp) (rw := rw') (Y := Y) ho hs (show i < 7 by omega)
      rw [ep, pI_succ] at hc
      have e : wrS K (lsB pl o s) (fun h => vb pl by_ o s h t) rw (i + 1) = ((wrS K (lsB pl o s) (fun h => vb pl by_ o s h t) rw i).1 + 1, up (rwF K (wrS K (lsB pl o s) (fun h => vb pl by_ o s h t) rw i).2 (wrS K (lsB pl o s) (fun h => vb pl by_ o s h t) rw i).1 i K) (5 * (wrS K (lsB pl o s) (fun h => vb pl by_ o s h t) rw i).1 + 4) (by_ (4 * p + t))) := by
        have ev : vb pl by_ o s i t = by_ (4 * p + t) := by unfold vb; rw [ep, Nat.add_sub_cancel]
        show (if _ then _ else _) = _
        rw [if_pos ⟨h2, by simp [lsB, ep]⟩]
        show (_, up _ _ (vb pl by_ o s i t)) = _
        rw [ev]
      rw [e] at ih
      refine J.v3i (hc _) k_R_writeRows_R_place d_R_writeRows_29 rfl rfl rfl ?_
      refine J.if_ltN d_R_writeRows_32 (tgt := 104) (by decide) (by omega) (fun _ => ?_)
      refine J.iconst d_R_writeRows_35 (v := nI 0) (by decide) ?_
      refine J.istore d_R_writeRows_36 (by decide) rfl ?_
      refine lp_R_wr1 ho hs hK4 hS (by omega) h2 ?_ K 0 (by omega)
      refine J.aload_n d_R_writeRows_73 rfl rfl ?_
      refine J.getfield d_R_writeRows_74 fl_R_41 rfl rfl ?_
      refine J.iconst d_R_writeRows_77 (v := nI 5) (by decide) ?_
      refine J.iload d_R_writeRows_78 rfl ?_
      refine J.imulN d_R_writeRows_80 ?_
      refine J.iconst d_R_writeRows_81 (v := nI 4) (by decide) ?_
      refine J.iaddN d_R_writeRows_82 ?_
      refine J.aload_n d_R_writeRows_83 rfl rfl ?_
      refine J.getfield d_R_writeRows_84 fl_R_20 rfl rfl ?_
      refine J.iconst d_R_writeRows_87 (v := nI 4) (by decide) ?_
      refine J.aload_n d_R_writeRows_88 rfl rfl ?_
      refine J.iload_n d_R_writeRows_89 rfl rfl ?_
      refine J.iload_n d_R_writeRows_90 rfl rfl ?_
      refine J.iload d_R_writeRows_91 rfl ?_
      refine J.v3i (hc _) k_R_writeRows_R_place d_R_writeRows_93 rfl rfl rfl ?_
      refine J.imulN d_R_writeRows_96 ?_
      refine J.iload_n d_R_writeRows_97 rfl rfl ?_
      refine J.iaddN d_R_writeRows_98 ?_
      refine J.ialoadN d_R_writeRows_99 rfl (by omega) (by omega) ?_
      refine J.iastoreN d_R_writeRows_100 rfl (by omega) (by omega) ?_
      refine J.iincN d_R_writeRows_101 rfl rfl (by decide) rfl ?_
      refine J.iincN d_R_writeRows_104 rfl rfl (by decide) rfl ?_
      refine J.goto d_R_writeRows_107 (tgt := 6) (by decide) ?_
      exact ih
theorem con_R_writeRows {o s t : Nat} (ho : o < 6) (hs : s < 8) (ht : t < 4) (hK4 : K ≤ 4) (hS : K + Mo ≤ 7) (hp : ∀ i, pl i ≤ 80) : Con l i_R_writeRows [.ref 15, .int (nI o), .int (nI s), .int (nI t)] (RM P K Mo co dr sz al us by_ ln pl os ou rd sp rw Y) (.inl (none, (RM P K Mo co dr sz al us by_ ln pl os ou rd sp ((wrS K (lsB pl o s) (fun h => vb pl by_ o s h t) rw (K + Mo)).2) Y))) := by
  refine Con.of ?_
  refine J.iconst d_R_writeRows_0 (v := nI 0) (by decide) ?_
  refine J.istore d_R_writeRows_1 (by decide) rfl ?_
  refine J.iconst d_R_writeRows_3 (v := nI 0) (by decide) ?_
  refine J.istore d_R_writeRows_4 (by decide) rfl ?_
  exact lp_R_wr ho hs ht hK4 hS hp (K + Mo) 0 (by omega)
/-- the first row from p on that has something in column c -/
def fp (rw : Nat → Nat) (c : Nat) : Nat → Nat → Nat
  | 0, p => p
  | n + 1, p => if rw (5 * p + c) = 0 then fp rw c n (p + 1) else p
theorem fp_ge (rw : Nat → Nat) (c : Nat) : ∀ n p, p ≤ fp rw c n p
  | 0, p => Nat.le_refl _
  | n + 1, p => by
    unfold fp; split
    · have := fp_ge rw c n (p + 1); omega
    · exact Nat.le_refl _
/-- rows p and c exchanged, f times the one that comes to c: the first n columns -/
def swJ (rw : Nat → Nat) (f p c : Nat) : Nat → Nat → Nat
  | 0 => rw
  | j + 1 => up (up (swJ rw f p c j) (5 * p + j) (swJ rw f p c j (5 * c + j))) (5 * c + j) (gm f (swJ rw f p c j (5 * p + j)))
/-- g times row c added to row k: the first n columns -/
def elJ (rw : Nat → Nat) (k g c : Nat) : Nat → Nat → Nat
  | 0 => rw
  | j + 1 => up (elJ rw k g c j) (5 * k + j) (elJ rw k g c j (5 * k + j) ^^^ gm g (elJ rw k g c j (5 * c + j)))
def elK (rw : Nat → Nat) (c : Nat) : Nat → Nat → Nat
  | 0 => rw
  | k + 1 => elJ (elK rw c k) k (if k = c then 0 else elK rw c k (5 * k + c)) c 5
/-- the columns ahead of n solved -/
def svS (K : Nat) (rw : Nat → Nat) : Nat → Nat → Nat
  | 0 => rw
  | c + 1 => elK (swJ (svS K rw c) (gi (svS K rw c (5 * fp (svS K rw c) c 4 c + c))) (fp (svS K rw c) c 4 c) c 5) c K
/-- every column finds its row -/
def svOk (K : Nat) (rw : Nat → Nat) : Prop := ∀ c, c < K → fp (svS K rw c) c 4 c < K ∧ svS K rw c (5 * fp (svS K rw c) c 4 c + c) ≠ 0
theorem swJ_lt {rw : Nat → Nat} {f p c : Nat} (hr : ∀ i, rw i < 256) (hf : f < 256) : ∀ n i, swJ rw f p c n i < 256
  | 0, i => hr i
  | n + 1, i => up_lt (up_lt (swJ_lt hr hf n) (swJ_lt hr hf n _)) (gm_lt hf) i
theorem elJ_lt {rw : Nat → Nat} {k g c : Nat} (hr : ∀ i, rw i < 256) (hg : g < 256) : ∀ n i, elJ rw k g c n i < 256
  | 0, i => hr i
  | n + 1, i => up_lt (elJ_lt hr hg n) (xor_lt (elJ_lt hr hg n _) (gm_lt hg)) i
theorem elK_lt {rw : Nat → Nat} {c : Nat} (hr : ∀ i, rw i < 256) : ∀ n i, elK rw c n i < 256
  | 0, i => hr i
  | n + 1, i => elJ_lt (elK_lt hr n) (by split; decide; exact elK_lt hr n _) 5 i
theorem svS_lt {K : Nat} {rw : Nat → Nat} (hr : ∀ i, rw i < 256) : ∀ n i, svS K rw n i < 256
  | 0, i => hr i
  | n + 1, i => elK_lt (swJ_lt (svS_lt hr n) (gi_lt _) 5) K i
theorem lp_R_piv {c q : Nat} (hc : c < K) (hK4 : K ≤ 4) (hr : ∀ i, rw i < 256) (hq : q < K) (hz : rw (5 * q + c) ≠ 0) {out : Out}
    (kk : J l i_R_solve 31 [(0, .ref 15), (1, .int (nI c)), (2, .int (nI q))] [] (RM P K Mo co dr sz al us by_ ln pl os ou rd sp rw Y) 0 0 out) : ∀ (n p : Nat), fp rw c n p = q → p ≤ q →
    J l i_R_solve 12 [(0, .ref 15), (1, .int (nI c)), (2, .int (nI p))] [] (RM P K Mo co dr sz al us by_ ln pl os ou rd sp rw Y) 0 0 out
  | 0, p, hf, hp => by
    have hf' : p = q := hf
    rw [hf']
    have hrq := hr (5 * q + c)
    refine J.aload_n d_R_solve_12 rfl rfl ?_
    refine J.getfield d_R_solve_13 fl_R_41 rfl rfl ?_
    refine J.iconst d_R_solve_16 (v := nI 5) (by decide) ?_
    refine J.iload_n d_R_solve_17 rfl rfl ?_
    refine J.imulN d_R_solve_18 ?_
    refine J.iload_n d_R_solve_19 rfl rfl ?_
    refine J.iaddN d_R_solve_20 ?_
    refine J.ialoadN d_R_solve_21 rfl (by omega) (by omega) ?_
    refine J.if_neN d_R_solve_22 (tgt := 31) (by decide) (by omega) (fun h => ?_) (fun h => ?_)
    · exact kk
    · exact absurd h hz
  | n + 1, p, hf, hp => by
    have hrp := hr (5 * p + c)
    unfold fp at hf
    refine J.aload_n d_R_solve_12 rfl rfl ?_
    refine J.getfield d_R_solve_13 fl_R_41 rfl rfl ?_
    refine J.iconst d_R_solve_16 (v := nI 5) (by decide) ?_
    refine J.iload_n d_R_solve_17 rfl rfl ?_
    refine J.imulN d_R_solve_18 ?_
    refine J.iload_n d_R_solve_19 rfl rfl ?_
    refine J.iaddN d_R_solve_20 ?_
    refine J.ialoadN d_R_solve_21 rfl (by omega) (by omega) ?_
    refine J.if_neN d_R_solve_22 (tgt := 31) (by decide) (by omega) (fun h => ?_) (fun h => ?_)
    · rw [if_neg h] at hf
      rw [hf]
      exact kk
    · rw [if_pos h] at hf
      have := fp_ge rw c n (p + 1)
      refine J.iincN d_R_solve_25 rfl rfl (by decide) rfl ?_
      refine J.goto d_R_solve_28 (tgt := 12) (by decide) ?_
      exact lp_R_piv hc hK4 hr hq hz kk n (p + 1) hf (by omega)
theorem lp_R_sw {c p f : Nat} (hc : c < K) (hK4 : K ≤ 4) (hp : p < K) (hf : f < 256) (hr : ∀ i, rw i < 256) {out : Out}
    (kk : J l i_R_solve 112 [(0, .ref 15), (1, .int (nI c))] [] (RM P K Mo co dr sz al us by_ ln pl os ou rd sp (swJ rw f p c 5) Y) 0 0 out) : ∀ (j i : Nat), i + j = 5 → ∀ lv, lv = [(0, Value.ref 15), (1, .int (nI c)), (2, .int (nI p)), (3, .int (nI f)), (4, .int (nI i))] ∨ (∃ x, lv = [(0, Value.ref 15), (1, .int (nI c)), (2, .int (nI p)), (3, .int (nI f)), (4, .int (nI i)), (5, .int (nI x))]) →
    J l i_R_solve 48 lv [] (RM P K Mo co dr sz al us by_ ln pl os ou rd sp (swJ rw f p c i) Y) 0 0 out
  | 0, i, hi, lv, hlv => by
    have hi' : i = 5 := by omega
    rw [hi'] at hlv ⊢
    rcases hlv with rfl | ⟨x, rfl⟩
    · refine J.iload d_R_solve_48 rfl ?_
      refine J.iconst d_R_solve_50 (v := nI 5) (by decide) ?_
      refine J.icmp_geN d_R_solve_51 (tgt := 112) (by decide) (by omega) (by omega) (fun h => ?_) (fun h => ?_)
      · exact J.sub [0, 1] kk
      · omega
    · refine J.iload d_R_solve_48 rfl ?_
      refine J.iconst d_R_solve_50 (v := nI 5) (by decide) ?_
      refine J.icmp_geN d_R_solve_51 (tgt := 112) (by decide) (by omega) (by omega) (fun h => ?_) (fun h => ?_)
      · exact J.sub [0, 1] kk
      · omega
  | j + 1, i, hi, lv, hlv => by
    have ih := lp_R_sw hc hK4 hp hf hr kk j (i + 1) (by omega) _ (Or.inr ⟨gm f (swJ rw f p c i (5 * p + i)), rfl⟩)
    have hl := swJ_lt (p := p) (c := c) hr hf i (5 * p + i)
    rcases hlv with rfl | ⟨x, rfl⟩
    · refine J.iload d_R_solve_48 rfl ?_
      refine J.iconst d_R_solve_50 (v := nI 5) (by decide) ?_
      refine J.icmp_geN d_R_solve_51 (tgt := 112) (by decide) (by omega) (by omega) (fun h => ?_) (fun h => ?_)
      · omega
      refine J.iload_n d_R_solve_54 rfl rfl ?_
      refine J.aload_n d_R_solve_55 rfl rfl ?_
      refine J.getfield d_R_solve_56 fl_R_41 rfl rfl ?_
      refine J.iconst d_R_solve_59 (v := nI 5) (by decide) ?_
      refine J.iload_n d_R_solve_60 rfl rfl ?_
      refine J.imulN d_R_solve_61 ?_
      refine J.iload d_R_solve_62 rfl ?_
      refine J.iaddN d_R_solve_64 ?_
      refine J.ialoadN d_R_solve_65 rfl (by omega) (by omega) ?_
      refine J.s2i (con_R_times hf hl _) k_R_solve_R_times d_R_solve_66 rfl ?_
      refine J.istore d_R_solve_69 (by decide) rfl ?_
      refine J.aload_n d_R_solve_71 rfl rfl ?_
      refine J.getfield d_R_solve_72 fl_R_41 rfl rfl ?_
      refine J.iconst d_R_solve_75 (v := nI 5) (by decide) ?_
      refine J.iload_n d_R_solve_76 rfl rfl ?_
      refine J.imulN d_R_solve_77 ?_
      refine J.iload d_R_solve_78 rfl ?_
      refine J.iaddN d_R_solve_80 ?_
      refine J.aload_n d_R_solve_81 rfl rfl ?_
      refine J.getfield d_R_solve_82 fl_R_41 rfl rfl ?_
      refine J.iconst d_R_solve_85 (v := nI 5) (by decide) ?_
      refine J.iload_n d_R_solve_86 rfl rfl ?_
      refine J.imulN d_R_solve_87 ?_
      refine J.iload d_R_solve_88 rfl ?_
      refine J.iaddN d_R_solve_90 ?_
      refine J.ialoadN d_R_solve_91 rfl (by omega) (by omega) ?_
      refine J.iastoreN d_R_solve_92 rfl (by omega) (by omega) ?_
      refine J.aload_n d_R_solve_93 rfl rfl ?_
      refine J.getfield d_R_solve_94 fl_R_41 rfl rfl ?_
      refine J.iconst d_R_solve_97 (v := nI 5) (by decide) ?_
      refine J.iload_n d_R_solve_98 rfl rfl ?_
      refine J.imulN d_R_solve_99 ?_
      refine J.iload d_R_solve_100 rfl ?_
      refine J.iaddN d_R_solve_102 ?_
      refine J.iload d_R_solve_103 rfl ?_
      refine J.iastoreN d_R_solve_105 rfl (by omega) (by omega) ?_
      refine J.iincN d_R_solve_106 rfl rfl (by decide) rfl ?_
      refine J.goto d_R_solve_109 (tgt := 48) (by decide) ?_
      exact ih
    · refine J.iload d_R_solve_48 rfl ?_
      refine J.iconst d_R_solve_50 (v := nI 5) (by decide) ?_
      refine J.icmp_geN d_R_solve_51 (tgt := 112) (by decide) (by omega) (by omega) (fun h => ?_) (fun h => ?_)
      · omega
      refine J.iload_n d_R_solve_54 rfl rfl ?_
      refine J.aload_n d_R_solve_55 rfl rfl ?_
      refine J.getfield d_R_solve_56 fl_R_41 rfl rfl ?_
      refine J.iconst d_R_solve_59 (v := nI 5) (by decide) ?_
      refine J.iload_n d_R_solve_60 rfl rfl ?_
      refine J.imulN d_R_solve_61 ?_
      refine J.iload d_R_solve_62 rfl ?_
      refine J.iaddN d_R_solve_64 ?_
      refine J.ialoadN d_R_solve_65 rfl (by omega) (by omega) ?_
      refine J.s2i (con_R_times hf hl _) k_R_solve_R_times d_R_solve_66 rfl ?_
      refine J.istore d_R_solve_69 (by decide) rfl ?_
      refine J.aload_n d_R_solve_71 rfl rfl ?_
      refine J.getfield d_R_solve_72 fl_R_41 rfl rfl ?_
      refine J.iconst d_R_solve_75 (v := nI 5) (by decide) ?_
      refine J.iload_n d_R_solve_76 rfl rfl ?_
      refine J.imulN d_R_solve_77 ?_
      refine J.iload d_R_solve_78 rfl ?_
      refine J.iaddN d_R_solve_80 ?_
      refine J.aload_n d_R_solve_81 rfl rfl ?_
      refine J.getfield d_R_solve_82 fl_R_41 rfl rfl ?_
      refine J.iconst d_R_solve_85 (v := nI 5) (by decide) ?_
      refine J.iload_n d_R_solve_86 rfl rfl ?_
      refine J.imulN d_R_solve_87 ?_
      refine J.iload d_R_solve_88 rfl ?_
      refine J.iaddN d_R_solve_90 ?_
      refine J.ialoadN d_R_solve_91 rfl (by omega) (by omega) ?_
      refine J.iastoreN d_R_solve_92 rfl (by omega) (by omega) ?_
      refine J.aload_n d_R_solve_93 rfl rfl ?_
      refine J.getfield d_R_solve_94 fl_R_41 rfl rfl ?_
      refine J.iconst d_R_solve_97 (v := nI 5) (by decide) ?_
      refine J.iload_n d_R_solve_98 rfl rfl ?_
      refine J.imulN d_R_solve_99 ?_
      refine J.iload d_R_solve_100 rfl ?_
      refine J.iaddN d_R_solve_102 ?_
      refine J.iload d_R_solve_103 rfl ?_
      refine J.iastoreN d_R_solve_105 rfl (by omega) (by omega) ?_
      refine J.iincN d_R_solve_106 rfl rfl (by decide) rfl ?_
      refine J.goto d_R_solve_109 (tgt := 48) (by decide) ?_
      exact ih
theorem lp_R_elJ {c k g : Nat} (hc : c < K) (hK4 : K ≤ 4) (hk : k < K) (hg : g < 256) (hr : ∀ i, rw i < 256) {out : Out}
    (kk : J l i_R_solve 203 [(0, .ref 15), (1, .int (nI c)), (4, .int (nI k))] [] (RM P K Mo co dr sz al us by_ ln pl os ou rd sp (elJ rw k g c 5) Y) 0 0 out) : ∀ (j i : Nat), i + j = 5 →
    J l i_R_solve 150 [(0, .ref 15), (1, .int (nI c)), (4, .int (nI k)), (5, .int (nI g)), (6, .int (nI i))] [] (RM P K Mo co dr sz al us by_ ln pl os ou rd sp (elJ rw k g c i) Y) 0 0 out
  | 0, i, hi => by
    have hi' : i = 5 := by omega
    rw [hi']
    refine J.iload d_R_solve_150 rfl ?_
    refine J.iconst d_R_solve_152 (v := nI 5) (by decide) ?_
    refine J.icmp_geN d_R_solve_153 (tgt := 203) (by decide) (by omega) (by omega) (fun h => ?_) (fun h => ?_)
    · exact J.sub [0, 1, 2] kk
    · omega
  | j + 1, i, hi => by
    have ih := lp_R_elJ hc hK4 hk hg hr kk j (i + 1) (by omega)
    have hl := elJ_lt (k := k) (c := c) hr hg i (5 * c + i)
    refine J.iload d_R_solve_150 rfl ?_
    refine J.iconst d_R_solve_152 (v := nI 5) (by decide) ?_
    refine J.icmp_geN d_R_solve_153 (tgt := 203) (by decide) (by omega) (by omega) (fun h => ?_) (fun h => ?_)
    · omega
    refine J.aload_n d_R_solve_156 rfl rfl ?_
    refine J.getfield d_R_solve_157 fl_R_41 rfl rfl ?_
    refine J.iconst d_R_solve_160 (v := nI 5) (by decide) ?_
    refine J.iload d_R_solve_161 rfl ?_
    refine J.imulN d_R_solve_163 ?_
    refine J.iload d_R_solve_164 rfl ?_
    refine J.iaddN d_R_solve_166 ?_
    refine J.aload_n d_R_solve_167 rfl rfl ?_
    refine J.getfield d_R_solve_168 fl_R_41 rfl rfl ?_
    refine J.iconst d_R_solve_171 (v := nI 5) (by decide) ?_
    refine J.iload d_R_solve_172 rfl ?_
    refine J.imulN d_R_solve_174 ?_
    refine J.iload d_R_solve_175 rfl ?_
    refine J.iaddN d_R_solve_177 ?_
    refine J.ialoadN d_R_solve_178 rfl (by omega) (by omega) ?_
    refine J.iload d_R_solve_179 rfl ?_
    refine J.aload_n d_R_solve_181 rfl rfl ?_
    refine J.getfield d_R_solve_182 fl_R_41 rfl rfl ?_
    refine J.iconst d_R_solve_185 (v := nI 5) (by decide) ?_
    refine J.iload_n d_R_solve_186 rfl rfl ?_
    refine J.imulN d_R_solve_187 ?_
    refine J.iload d_R_solve_188 rfl ?_
    refine J.iaddN d_R_solve_190 ?_
    refine J.ialoadN d_R_solve_191 rfl (by omega) (by omega) ?_
    refine J.s2i (con_R_times hg hl _) k_R_solve_R_times d_R_solve_192 rfl ?_
    refine J.ixorN d_R_solve_195 ?_
    refine J.iastoreN d_R_solve_196 rfl (by omega) (by omega) ?_
    refine J.iincN d_R_solve_197 rfl rfl (by decide) rfl ?_
    refine J.goto d_R_solve_200 (tgt := 150) (by decide) ?_
    exact ih
theorem lp_R_elK {c : Nat} (hc : c < K) (hK4 : K ≤ 4) (hr : ∀ i, rw i < 256) {out : Out}
    (kk : J l i_R_solve 209 [(0, .ref 15), (1, .int (nI c))] [] (RM P K Mo co dr sz al us by_ ln pl os ou rd sp (elK rw c K) Y) 0 0 out) : ∀ (j i : Nat), i + j = K →
    J l i_R_solve 115 [(0, .ref 15), (1, .int (nI c)), (4, .int (nI i))] [] (RM P K Mo co dr sz al us by_ ln pl os ou rd sp (elK rw c i) Y) 0 0 out
  | 0, i, hi => by
    have hi' : i = K := by omega
    rw [hi']
    refine J.iload d_R_solve_115 rfl ?_
    refine J.aload_n d_R_solve_117 rfl rfl ?_
    refine J.getfield d_R_solve_118 fl_R_44 rfl rfl ?_
    refine J.icmp_geN d_R_solve_121 (tgt := 209) (by decide) (by omega) (by omega) (fun h => ?_) (fun h => ?_)
    · exact J.sub [0, 1] kk
    · omega
  | j + 1, i, hi => by
    have ih := lp_R_elK hc hK4 hr kk j (i + 1) (by omega)
    have hl := elK_lt (c := c) hr i
    have hl2 := hl (5 * i + c)
    refine J.iload d_R_solve_115 rfl ?_
    refine J.aload_n d_R_solve_117 rfl rfl ?_
    refine J.getfield d_R_solve_118 fl_R_44 rfl rfl ?_
    refine J.icmp_geN d_R_solve_121 (tgt := 209) (by decide) (by omega) (by omega) (fun h => ?_) (fun h => ?_)
    · omega
    refine J.iload d_R_solve_124 rfl ?_
    refine J.iload_n d_R_solve_126 rfl rfl ?_
    refine J.icmp_neN d_R_solve_127 (tgt := 134) (by decide) (by omega) (by omega) (fun h2 => ?_) (fun h2 => ?_)
    · refine J.aload_n d_R_solve_134 rfl rfl ?_
      refine J.getfield d_R_solve_135 fl_R_41 rfl rfl ?_
      refine J.iconst d_R_solve_138 (v := nI 5) (by decide) ?_
      refine J.iload d_R_solve_139 rfl ?_
      refine J.imulN d_R_solve_141 ?_
      refine J.iload_n d_R_solve_142 rfl rfl ?_
      refine J.iaddN d_R_solve_143 ?_
      refine J.ialoadN d_R_solve_144 rfl (by omega) (by omega) ?_
      refine J.istore d_R_solve_145 (by decide) rfl ?_
      refine J.iconst d_R_solve_147 (v := nI 0) (by decide) ?_
      refine J.istore d_R_solve_148 (by decide) rfl ?_
      have e : elK rw c (i + 1) = elJ (elK rw c i) i (elK rw c i (5 * i + c)) c 5 := by
        show elJ _ _ (if _ then _ else _) _ _ = _
        rw [if_neg h2]
      rw [e] at ih
      refine lp_R_elJ hc hK4 (by omega) hl2 hl ?_ 5 0 (by omega)
      refine J.iincN d_R_solve_203 rfl rfl (by decide) rfl ?_
      refine J.goto d_R_solve_206 (tgt := 115) (by decide) ?_
      exact ih
    · refine J.iconst d_R_solve_130 (v := nI 0) (by decide) ?_
      refine J.goto d_R_solve_131 (tgt := 145) (by decide) ?_
      refine J.istore d_R_solve_145 (by decide) rfl ?_
      refine J.iconst d_R_solve_147 (v := nI 0) (by decide) ?_
      refine J.istore d_R_solve_148 (by decide) rfl ?_
      have e : elK rw c (i + 1) = elJ (elK rw c i) i 0 c 5 := by
        show elJ _ _ (if _ then _ else _) _ _ = _
        rw [if_pos h2]
      rw [e] at ih
      refine lp_R_elJ hc hK4 (by omega) (by omega) hl ?_ 5 0 (by omega)
      refine J.iincN d_R_solve_203 rfl rfl (by decide) rfl ?_
      refine J.goto d_R_solve_206 (tgt := 115) (by decide) ?_
      exact ih
theorem lp_R_sol (hK4 : K ≤ 4) (hr : ∀ i, rw i < 256) (hok : svOk K rw) : ∀ (j i : Nat), i + j = K →
    J l i_R_solve 2 [(0, .ref 15), (1, .int (nI i))] [] (RM P K Mo co dr sz al us by_ ln pl os ou rd sp (svS K rw i) Y) 0 0 (.inl (none, (RM P K Mo co dr sz al us by_ ln pl os ou rd sp (svS K rw K) Y)))
  | 0, i, hi => by
    have hi' : i = K := by omega
    rw [hi']
    refine J.iload_n d_R_solve_2 rfl rfl ?_
    refine J.aload_n d_R_solve_3 rfl rfl ?_
    refine J.getfield d_R_solve_4 fl_R_44 rfl rfl ?_
    refine J.icmp_geN d_R_solve_7 (tgt := 215) (by decide) (by omega) (by omega) (fun h => ?_) (fun h => ?_)
    · exact J.vreturn d_R_solve_215 rfl (by decide) (by decide)
    · omega
  | j + 1, i, hi => by
    have ih := lp_R_sol hK4 hr hok j (i + 1) (by omega)
    have hl := svS_lt (K := K) hr i
    obtain ⟨o1, o2⟩ := hok i (by omega)
    have e : svS K rw (i + 1) = elK (swJ (svS K rw i) (gi (svS K rw i (5 * fp (svS K rw i) i 4 i + i))) (fp (svS K rw i) i 4 i) i 5) i K := rfl
    rw [e] at ih
    have hge := fp_ge (svS K rw i) i 4 i
    generalize hq : fp (svS K rw i) i 4 i = q at o1 o2 ih hge
    generalize svS K rw i = w at hl o2 ih hq ⊢
    have hwq := hl (5 * q + i)
    refine J.iload_n d_R_solve_2 rfl rfl ?_
    refine J.aload_n d_R_solve_3 rfl rfl ?_
    refine J.getfield d_R_solve_4 fl_R_44 rfl rfl ?_
    refine J.icmp_geN d_R_solve_7 (tgt := 215) (by decide) (by omega) (by omega) (fun h => ?_) (fun h => ?_)
    · omega
    refine J.iload_n d_R_solve_10 rfl rfl ?_
    refine J.istore_n d_R_solve_11 rfl (by decide) rfl ?_
    refine lp_R_piv (by omega) hK4 hl o1 o2 ?_ 4 i hq hge
    refine J.aload_n d_R_solve_31 rfl rfl ?_
    refine J.getfield d_R_solve_32 fl_R_41 rfl rfl ?_
    refine J.iconst d_R_solve_35 (v := nI 5) (by decide) ?_
    refine J.iload_n d_R_solve_36 rfl rfl ?_
    refine J.imulN d_R_solve_37 ?_
    refine J.iload_n d_R_solve_38 rfl rfl ?_
    refine J.iaddN d_R_solve_39 ?_
    refine J.ialoadN d_R_solve_40 rfl (by omega) (by omega) ?_
    refine J.s1i (con_R_inverse (by omega) hwq _) k_R_solve_R_inverse d_R_solve_41 rfl ?_
    refine J.istore_n d_R_solve_44 rfl (by decide) rfl ?_
    refine J.iconst d_R_solve_45 (v := nI 0) (by decide) ?_
    refine J.istore d_R_solve_46 (by decide) rfl ?_
    refine lp_R_sw (by omega) hK4 o1 (gi_lt _) hl ?_ 5 0 (by omega) _ (Or.inl rfl)
    refine J.iconst d_R_solve_112 (v := nI 0) (by decide) ?_
    refine J.istore d_R_solve_113 (by decide) rfl ?_
    refine lp_R_elK (by omega) hK4 (swJ_lt hl (gi_lt _) 5) ?_ K 0 (by omega)
    refine J.iincN d_R_solve_209 rfl rfl (by decide) rfl ?_
    refine J.goto d_R_solve_212 (tgt := 2) (by decide) ?_
    exact ih
theorem con_R_solve (hK4 : K ≤ 4) (hr : ∀ i, rw i < 256) (hok : svOk K rw) : Con l i_R_solve [.ref 15] (RM P K Mo co dr sz al us by_ ln pl os ou rd sp rw Y) (.inl (none, (RM P K Mo co dr sz al us by_ ln pl os ou rd sp (svS K rw K) Y))) := by
  refine Con.of ?_
  refine J.iconst d_R_solve_0 (v := nI 0) (by decide) ?_
  refine J.istore_n d_R_solve_1 rfl (by decide) rfl ?_
  exact lp_R_sol hK4 hr hok K 0 (by omega)
/-- byte t of the first n data taken out of the rows -/
def stj (sp r : Nat → Nat) (t : Nat) : Nat → Nat → Nat
  | 0 => sp
  | j + 1 => up (stj sp r t j) (4 * j + t) (r (5 * j + 4))
/-- the rows as they are written for byte t -/
def wrT (K Sh : Nat) (ls : Nat → Bool) (v : Nat → Nat → Nat) (rw : Nat → Nat) (t : Nat) : Nat → Nat := (wrS K ls (fun h => v h t) rw Sh).2
/-- the bytes ahead of n read: rows, stripe -/
def rdR (K Sh : Nat) (ls : Nat → Bool) (v : Nat → Nat → Nat) (x : ED) : Nat → ED
  | 0 => x
  | t + 1 => (svS K (wrT K Sh ls v (rdR K Sh ls v x t).1 t) K, stj (rdR K Sh ls v x t).2 (svS K (wrT K Sh ls v (rdR K Sh ls v x t).1 t) K) t K)
theorem stj_lt {sp r : Nat → Nat} {t : Nat} (hs : ∀ i, sp i < 256) (hr : ∀ i, r i < 256) : ∀ n i, stj sp r t n i < 256
  | 0, i => hs i
  | n + 1, i => up_lt (stj_lt hs hr n) (hr _) i
theorem rdR_b {K Sh : Nat} {ls : Nat → Bool} {v : Nat → Nat → Nat} {x : ED} (hx : b256 x) (hv : ∀ h t, v h t < 256) : ∀ n, b256 (rdR K Sh ls v x n)
  | 0 => hx
  | n + 1 => by
    have ih := rdR_b (K := K) (Sh := Sh) (ls := ls) hx hv n
    have h1 := svS_lt (K := K) (rw := wrT K Sh ls v (rdR K Sh ls v x n).1 n) (wrS_lt ih.1 (fun h => hv h n) Sh) K
    exact ⟨h1, stj_lt ih.2 h1 K⟩
theorem lp_R_st {o s t : Nat} (ht : t < 4) (hK4 : K ≤ 4) {out : Out}
    (kk : J l i_R_readStripe 58 [(0, .ref 15), (1, .int (nI o)), (2, .int (nI s)), (3, .int (nI t))] [] (RM P K Mo co dr sz al us by_ ln pl os ou rd (stj sp rw t K) rw Y) 0 0 out) : ∀ (j i : Nat), i + j = K →
    J l i_R_readStripe 21 [(0, .ref 15), (1, .int (nI o)), (2, .int (nI s)), (3, .int (nI t)), (4, .int (nI i))] [] (RM P K Mo co dr sz al us by_ ln pl os ou rd (stj sp rw t i) rw Y) 0 0 out
  | 0, i, hi => by
    have hi' : i = K := by omega
    rw [hi']
    refine J.iload d_R_readStripe_21 rfl ?_
    refine J.aload_n d_R_readStripe_23 rfl rfl ?_
    refine J.getfield d_R_readStripe_24 fl_R_44 rfl rfl ?_
    refine J.icmp_geN d_R_readStripe_27 (tgt := 58) (by decide) (by omega) (by omega) (fun h => ?_) (fun h => ?_)
    · exact J.sub [0, 1, 2, 3] kk
    · omega
  | j + 1, i, hi => by
    have ih := lp_R_st (o := o) (s := s) ht hK4 kk j (i + 1) (by omega)
    refine J.iload d_R_readStripe_21 rfl ?_
    refine J.aload_n d_R_readStripe_23 rfl rfl ?_
    refine J.getfield d_R_readStripe_24 fl_R_44 rfl rfl ?_
    refine J.icmp_geN d_R_readStripe_27 (tgt := 58) (by decide) (by omega) (by omega) (fun h => ?_) (fun h => ?_)
    · omega
    refine J.aload_n d_R_readStripe_30 rfl rfl ?_
    refine J.getfield d_R_readStripe_31 fl_R_38 rfl rfl ?_
    refine J.iconst d_R_readStripe_34 (v := nI 4) (by decide) ?_
    refine J.iload d_R_readStripe_35 rfl ?_
    refine J.imulN d_R_readStripe_37 ?_
    refine J.iload_n d_R_readStripe_38 rfl rfl ?_
    refine J.iaddN d_R_readStripe_39 ?_
    refine J.aload_n d_R_readStripe_40 rfl rfl ?_
    refine J.getfield d_R_readStripe_41 fl_R_41 rfl rfl ?_
    refine J.iconst d_R_readStripe_44 (v := nI 5) (by decide) ?_
    refine J.iload d_R_readStripe_45 rfl ?_
    refine J.imulN d_R_readStripe_47 ?_
    refine J.iconst d_R_readStripe_48 (v := nI 4) (by decide) ?_
    refine J.iaddN d_R_readStripe_49 ?_
    refine J.ialoadN d_R_readStripe_50 rfl (by omega) (by omega) ?_
    refine J.iastoreN d_R_readStripe_51 rfl (by omega) (by omega) ?_
    refine J.iincN d_R_readStripe_52 rfl rfl (by decide) rfl ?_
    refine J.goto d_R_readStripe_55 (tgt := 21) (by decide) ?_
    exact ih
theorem lp_R_read {o s : Nat} {x : ED} (hx : b256 x) (ho : o < 6) (hs : s < 8) (hK4 : K ≤ 4) (hS : K + Mo ≤ 7) (hp : ∀ i, pl i ≤ 80) (hby : ∀ i, by_ i < 256) (hok : ∀ (r : Nat → Nat) (t : Nat), svOk K (wrT K (K + Mo) (lsB pl o s) (vb pl by_ o s) r t)) : ∀ (j i : Nat), i + j = 4 →
    J l i_R_readStripe 2 [(0, .ref 15), (1, .int (nI o)), (2, .int (nI s)), (3, .int (nI i))] [] (RM P K Mo co dr sz al us by_ ln pl os ou rd ((rdR K (K + Mo) (lsB pl o s) (vb pl by_ o s) x i).2) ((rdR K (K + Mo) (lsB pl o s) (vb pl by_ o s) x i).1) Y) 0 0 (.inl (none, (RM P K Mo co dr sz al us by_ ln pl os ou rd ((rdR K (K + Mo) (lsB pl o s) (vb pl by_ o s) x 4).2) ((rdR K (K + Mo) (lsB pl o s) (vb pl by_ o s) x 4).1) Y)))
  | 0, i, hi => by
    have hi' : i = 4 := by omega
    rw [hi']
    refine J.iload_n d_R_readStripe_2 rfl rfl ?_
    refine J.iconst d_R_readStripe_3 (v := nI 4) (by decide) ?_
    refine J.icmp_geN d_R_readStripe_4 (tgt := 64) (by decide) (by omega) (by omega) (fun h => ?_) (fun h => ?_)
    · exact J.vreturn d_R_readStripe_64 rfl (by decide) (by decide)
    · omega
  | j + 1, i, hi => by
    have ih := lp_R_read hx ho hs hK4 hS hp hby hok j (i + 1) (by omega)
    have hb := rdR_b (K := K) (Sh := K + Mo) (ls := lsB pl o s) (v := vb pl by_ o s) hx (fun _ _ => hby _) i
    have hw : ∀ q, wrT K (K + Mo) (lsB pl o s) (vb pl by_ o s) (rdR K (K + Mo) (lsB pl o s) (vb pl by_ o s) x i).1 i q < 256 := wrS_lt hb.1 (fun h => hby _) (K + Mo)
    refine J.iload_n d_R_readStripe_2 rfl rfl ?_
    refine J.iconst d_R_readStripe_3 (v := nI 4) (by decide) ?_
    refine J.icmp_geN d_R_readStripe_4 (tgt := 64) (by decide) (by omega) (by omega) (fun h => ?_) (fun h => ?_)
    · omega
    refine J.aload_n d_R_readStripe_7 rfl rfl ?_
    refine J.iload_n d_R_readStripe_8 rfl rfl ?_
    refine J.iload_n d_R_readStripe_9 rfl rfl ?_
    refine J.iload_n d_R_readStripe_10 rfl rfl ?_
    refine J.v3v (con_R_writeRows ho hs (by omega) hK4 hS hp) k_R_readStripe_R_writeRows d_R_readStripe_11 rfl rfl rfl ?_
    refine J.aload_n d_R_readStripe_14 rfl rfl ?_
    refine J.v0v (con_R_solve hK4 hw (hok _ _)) k_R_readStripe_R_solve d_R_readStripe_15 rfl rfl rfl ?_
    refine J.iconst d_R_readStripe_18 (v := nI 0) (by decide) ?_
    refine J.istore d_R_readStripe_19 (by decide) rfl ?_
    refine lp_R_st (by omega) hK4 ?_ K 0 (by omega)
    refine J.iincN d_R_readStripe_58 rfl rfl (by decide) rfl ?_
    refine J.goto d_R_readStripe_61 (tgt := 2) (by decide) ?_
    exact ih
theorem con_R_readStripe {o s : Nat} (hr : ∀ i, rw i < 256) (hsp : ∀ i, sp i < 256) (ho : o < 6) (hs : s < 8) (hK4 : K ≤ 4) (hS : K + Mo ≤ 7) (hp : ∀ i, pl i ≤ 80) (hby : ∀ i, by_ i < 256) (hok : ∀ (r : Nat → Nat) (t : Nat), svOk K (wrT K (K + Mo) (lsB pl o s) (vb pl by_ o s) r t)) :
    Con l i_R_readStripe [.ref 15, .int (nI o), .int (nI s)] (RM P K Mo co dr sz al us by_ ln pl os ou rd sp rw Y) (.inl (none, (RM P K Mo co dr sz al us by_ ln pl os ou rd ((rdR K (K + Mo) (lsB pl o s) (vb pl by_ o s) (rw, sp) 4).2) ((rdR K (K + Mo) (lsB pl o s) (vb pl by_ o s) (rw, sp) 4).1) Y))) := by
  refine Con.of ?_
  refine J.iconst d_R_readStripe_0 (v := nI 0) (by decide) ?_
  refine J.istore_n d_R_readStripe_1 rfl (by decide) rfl ?_
  exact lp_R_read (x := (rw, sp)) ⟨hr, hsp⟩ ho hs hK4 hS hp hby hok 4 0 (by omega)
end REFREAD
end
section
/-! The reference's public methods, one case a row (the short ones) -/
section REFPUB
variable {l : Launch} {P : Nat → va_E} {K Mo co sz os : Nat} {dr al us by_ ln pl ou rd sp rw : Nat → Nat} {Y : List va_E}
theorem con_R_thrown : Con l i_R_thrown [.ref 15] (RM P K Mo co dr sz al us by_ ln pl os ou rd sp rw Y) (.inl (some (.int (nI co)), (RM P K Mo co dr sz al us by_ ln pl os ou rd sp rw Y))) := by
  refine Con.of ?_
  refine J.aload_n d_R_thrown_0 rfl rfl ?_
  refine J.getfield d_R_thrown_1 fl_R_59 rfl rfl ?_
  exact J.ireturn d_R_thrown_4 rfl (by decide) (by decide)
theorem con_R_scrap : Con l i_R_scrap [.ref 15] (RM P K Mo co dr sz al us by_ ln pl os ou rd sp rw Y) (.inl (none, (RM P K Mo 0 dr 0 al us by_ ln pl os ou rd sp rw Y))) := by
  refine Con.of ?_
  refine J.aload_n d_R_scrap_0 rfl rfl ?_
  refine J.iconst d_R_scrap_1 (v := nI 0) (by decide) ?_
  refine J.putfield d_R_scrap_2 (fs_R_59 _) rfl (Nat.le_of_ble_eq_true rfl) rfl rfl ?_
  refine J.aload_n d_R_scrap_5 rfl rfl ?_
  refine J.iconst d_R_scrap_6 (v := nI 0) (by decide) ?_
  refine J.putfield d_R_scrap_7 (fs_R_62 _) rfl (Nat.le_of_ble_eq_true rfl) rfl rfl ?_
  exact J.vreturn d_R_scrap_10 rfl (by decide) (by decide)
theorem con_R_isObj1 {o : Nat} (ho : o < 6) (M : List va_E) : Con l i_R_isObject [.int (nI o)] M (.inl (some (.int (nI 1)), M)) := by
  refine Con.of ?_
  refine J.iload_n d_R_isObject_0 rfl rfl ?_
  refine J.if_ltN d_R_isObject_1 (tgt := 14) (by decide) (by omega) (fun _ => ?_)
  refine J.iload_n d_R_isObject_4 rfl rfl ?_
  refine J.bipush d_R_isObject_5 (v := nI 6) (by decide) ?_
  refine J.icmp_geN d_R_isObject_7 (tgt := 14) (by decide) (by omega) (by omega) (fun h => ?_) (fun h => ?_)
  · omega
  · refine J.iconst d_R_isObject_10 (v := nI 1) (by decide) ?_
    refine J.goto d_R_isObject_11 (tgt := 15) (by decide) ?_
    first | exact J.zreturn d_R_isObject_15 rfl rfl (by decide) (by decide) | exact J.zreturnN d_R_isObject_15 rfl (by omega) (by decide) (by decide)
theorem con_R_isObj0 {x : Int32} (hx : x < 0 ∨ nI 6 ≤ x) (M : List va_E) : Con l i_R_isObject [.int x] M (.inl (some (.int (nI 0)), M)) := by
  refine Con.of ?_
  refine J.iload_n d_R_isObject_0 rfl rfl ?_
  refine J.if_lt d_R_isObject_1 (tgt := 14) (by decide) (fun h => ?_) (fun h => ?_)
  · refine J.iconst d_R_isObject_14 (v := nI 0) (by decide) ?_
    first | exact J.zreturn d_R_isObject_15 rfl rfl (by decide) (by decide) | exact J.zreturnN d_R_isObject_15 rfl (by omega) (by decide) (by decide)
  refine J.iload_n d_R_isObject_4 rfl rfl ?_
  refine J.bipush d_R_isObject_5 (v := nI 6) (by decide) ?_
  refine J.icmp_ge d_R_isObject_7 (tgt := 14) (by decide) (fun h2 => ?_) (fun h2 => absurd (hx.resolve_left h) h2)
  refine J.iconst d_R_isObject_14 (v := nI 0) (by decide) ?_
  first | exact J.zreturn d_R_isObject_15 rfl rfl (by decide) (by decide) | exact J.zreturnN d_R_isObject_15 rfl (by omega) (by decide) (by decide)
theorem con_R_isDisk1 {o : Nat} (ho : o < 8) (M : List va_E) : Con l i_R_isDisk [.int (nI o)] M (.inl (some (.int (nI 1)), M)) := by
  refine Con.of ?_
  refine J.iload_n d_R_isDisk_0 rfl rfl ?_
  refine J.if_ltN d_R_isDisk_1 (tgt := 14) (by decide) (by omega) (fun _ => ?_)
  refine J.iload_n d_R_isDisk_4 rfl rfl ?_
  refine J.bipush d_R_isDisk_5 (v := nI 8) (by decide) ?_
  refine J.icmp_geN d_R_isDisk_7 (tgt := 14) (by decide) (by omega) (by omega) (fun h => ?_) (fun h => ?_)
  · omega
  · refine J.iconst d_R_isDisk_10 (v := nI 1) (by decide) ?_
    refine J.goto d_R_isDisk_11 (tgt := 15) (by decide) ?_
    first | exact J.zreturn d_R_isDisk_15 rfl rfl (by decide) (by decide) | exact J.zreturnN d_R_isDisk_15 rfl (by omega) (by decide) (by decide)
theorem con_R_isDisk0 {x : Int32} (hx : x < 0 ∨ nI 8 ≤ x) (M : List va_E) : Con l i_R_isDisk [.int x] M (.inl (some (.int (nI 0)), M)) := by
  refine Con.of ?_
  refine J.iload_n d_R_isDisk_0 rfl rfl ?_
  refine J.if_lt d_R_isDisk_1 (tgt := 14) (by decide) (fun h => ?_) (fun h => ?_)
  · refine J.iconst d_R_isDisk_14 (v := nI 0) (by decide) ?_
    first | exact J.zreturn d_R_isDisk_15 rfl rfl (by decide) (by decide) | exact J.zreturnN d_R_isDisk_15 rfl (by omega) (by decide) (by decide)
  refine J.iload_n d_R_isDisk_4 rfl rfl ?_
  refine J.bipush d_R_isDisk_5 (v := nI 8) (by decide) ?_
  refine J.icmp_ge d_R_isDisk_7 (tgt := 14) (by decide) (fun h2 => ?_) (fun h2 => absurd (hx.resolve_left h) h2)
  refine J.iconst d_R_isDisk_14 (v := nI 0) (by decide) ?_
  first | exact J.zreturn d_R_isDisk_15 rfl rfl (by decide) (by decide) | exact J.zreturnN d_R_isDisk_15 rfl (by omega) (by decide) (by decide)
theorem con_R_isThere1 {o : Nat} (ho : o < 6) (hl : 0 < ln o) (hln : ln o ≤ 32) : Con l i_R_isThere [.ref 15, .int (nI o)] (RM P K Mo co dr sz al us by_ ln pl os ou rd sp rw Y) (.inl (some (.int (nI 1)), (RM P K Mo co dr sz al us by_ ln pl os ou rd sp rw Y))) := by
  refine Con.of ?_
  refine J.iload_n d_R_isThere_0 rfl rfl ?_
  refine J.s1i (con_R_isObj1 ho _) k_R_isThere_R_isObject d_R_isThere_1 rfl ?_
  refine J.if_eqN d_R_isThere_4 (tgt := 20) (by decide) (by omega) (fun h => ?_) (fun h => ?_)
  · exact absurd h (by decide)
  refine J.aload_n d_R_isThere_7 rfl rfl ?_
  refine J.getfield d_R_isThere_8 fl_R_23 rfl rfl ?_
  refine J.iload_n d_R_isThere_11 rfl rfl ?_
  refine J.ialoadN d_R_isThere_12 rfl (by omega) (by omega) ?_
  refine J.if_leN d_R_isThere_13 (tgt := 20) (by decide) (by omega) (fun h => ?_) (fun h => ?_)
  · omega
  · refine J.iconst d_R_isThere_16 (v := nI 1) (by decide) ?_
    refine J.goto d_R_isThere_17 (tgt := 21) (by decide) ?_
    first | exact J.zreturn d_R_isThere_21 rfl rfl (by decide) (by decide) | exact J.zreturnN d_R_isThere_21 rfl (by omega) (by decide) (by decide)
theorem con_R_isThere0 {x : Int32} (hx : noO ln x) : Con l i_R_isThere [.ref 15, .int x] (RM P K Mo co dr sz al us by_ ln pl os ou rd sp rw Y) (.inl (some (.int (nI 0)), (RM P K Mo co dr sz al us by_ ln pl os ou rd sp rw Y))) := by
  have out : (x < 0 ∨ nI 6 ≤ x) → Con l i_R_isThere [.ref 15, .int x] (RM P K Mo co dr sz al us by_ ln pl os ou rd sp rw Y) (.inl (some (.int (nI 0)), (RM P K Mo co dr sz al us by_ ln pl os ou rd sp rw Y))) := by
    intro hx
    refine Con.of ?_
    refine J.iload_n d_R_isThere_0 rfl rfl ?_
    refine J.s1i (con_R_isObj0 hx _) k_R_isThere_R_isObject d_R_isThere_1 rfl ?_
    refine J.if_eqN d_R_isThere_4 (tgt := 20) (by decide) (by omega) (fun h => ?_) (fun h => ?_)
    · refine J.iconst d_R_isThere_20 (v := nI 0) (by decide) ?_
      first | exact J.zreturn d_R_isThere_21 rfl rfl (by decide) (by decide) | exact J.zreturnN d_R_isThere_21 rfl (by omega) (by decide) (by decide)
    · exact absurd rfl h
  rcases hx with hx | hx | ⟨o, ho, rfl, h0⟩
  · exact out (Or.inl hx)
  · exact out (Or.inr hx)
  · refine Con.of ?_
    refine J.iload_n d_R_isThere_0 rfl rfl ?_
    refine J.s1i (con_R_isObj1 ho _) k_R_isThere_R_isObject d_R_isThere_1 rfl ?_
    refine J.if_eqN d_R_isThere_4 (tgt := 20) (by decide) (by omega) (fun h => ?_) (fun h => ?_)
    · exact absurd h (by decide)
    refine J.aload_n d_R_isThere_7 rfl rfl ?_
    refine J.getfield d_R_isThere_8 fl_R_23 rfl rfl ?_
    refine J.iload_n d_R_isThere_11 rfl rfl ?_
    refine J.ialoadN d_R_isThere_12 rfl (by omega) (by omega) ?_
    rw [h0]
    refine J.if_leN d_R_isThere_13 (tgt := 20) (by decide) (by omega) (fun h => ?_) (fun h => ?_)
    · refine J.iconst d_R_isThere_20 (v := nI 0) (by decide) ?_
      first | exact J.zreturn d_R_isThere_21 rfl rfl (by decide) (by decide) | exact J.zreturnN d_R_isThere_21 rfl (by omega) (by decide) (by decide)
    · exact absurd h (by decide)
theorem con_R_drop1 {o : Nat} (h2 : ∀ i, us i < 2) (hp : ∀ i, pl i ≤ 80) (ho : o < 6) (hl : 0 < ln o) (hln : ln o ≤ 32) : Con l i_R_drop [.ref 15, .int (nI o)] (RM P K Mo co dr sz al us by_ ln pl os ou rd sp rw Y) (.inl (some (.int (nI (clS o (0, us, pl) 56).1)), (RM P K Mo 0 dr sz al ((clS o (0, us, pl) 56).2.1) by_ (up ln o 0) ((clS o (0, us, pl) 56).2.2) os ou rd sp rw Y))) := by
  refine Con.of ?_
  refine J.aload_n d_R_drop_0 rfl rfl ?_
  refine J.aload_n d_R_drop_1 rfl rfl ?_
  refine J.iload_n d_R_drop_2 rfl rfl ?_
  refine J.v1i (con_R_isThere1 ho hl hln) k_R_drop_R_isThere d_R_drop_3 rfl rfl rfl ?_
  refine J.if_eqN d_R_drop_6 (tgt := 13) (by decide) (by omega) (fun h => ?_) (fun h => ?_)
  · exact absurd h (by decide)
  refine J.iconst d_R_drop_9 (v := nI 0) (by decide) ?_
  refine J.goto d_R_drop_10 (tgt := 14) (by decide) ?_
  refine J.putfield d_R_drop_14 (fs_R_59 _) rfl (Nat.le_of_ble_eq_true rfl) rfl rfl ?_
  refine J.aload_n d_R_drop_17 rfl rfl ?_
  refine J.getfield d_R_drop_18 fl_R_59 rfl rfl ?_
  refine J.if_leN d_R_drop_21 (tgt := 28) (by decide) (by omega) (fun h => ?_) (fun h => ?_)
  · refine J.aload_n d_R_drop_28 rfl rfl ?_
    refine J.iload_n d_R_drop_29 rfl rfl ?_
    have hc := con_R_clear (l := l) (P := P) (K := K) (Mo := Mo) (co := 0) (sz := sz) (os := os) (dr := dr) (al := al) (us := us) (by_ := by_) (ln := ln) (pl := pl) (ou := ou) (rd := rd) (sp := sp) (rw := rw) (Y := Y) h2 hp ho
    generalize clS o (0, us, pl) 56 = z at hc ⊢
    refine J.v1i hc k_R_drop_R_clear d_R_drop_30 rfl rfl rfl ?_
    exact J.ireturn d_R_drop_33 rfl (by decide) (by decide)
  · exact absurd h (by decide)
theorem con_R_drop0 {x : Int32} (hx : noO ln x) : Con l i_R_drop [.ref 15, .int x] (RM P K Mo co dr sz al us by_ ln pl os ou rd sp rw Y) (.inl (some (.int (nI 0)), (RM P K Mo 1 dr sz al us by_ ln pl os ou rd sp rw Y))) := by
  refine Con.of ?_
  refine J.aload_n d_R_drop_0 rfl rfl ?_
  refine J.aload_n d_R_drop_1 rfl rfl ?_
  refine J.iload_n d_R_drop_2 rfl rfl ?_
  refine J.v1i (con_R_isThere0 hx) k_R_drop_R_isThere d_R_drop_3 rfl rfl rfl ?_
  refine J.if_eqN d_R_drop_6 (tgt := 13) (by decide) (by omega) (fun h => ?_) (fun h => ?_)
  · refine J.iconst d_R_drop_13 (v := nI 1) (by decide) ?_
    refine J.putfield d_R_drop_14 (fs_R_59 _) rfl (Nat.le_of_ble_eq_true rfl) rfl rfl ?_
    refine J.aload_n d_R_drop_17 rfl rfl ?_
    refine J.getfield d_R_drop_18 fl_R_59 rfl rfl ?_
    refine J.if_leN d_R_drop_21 (tgt := 28) (by decide) (by omega) (fun h2 => ?_) (fun h2 => ?_)
    · exact absurd h2 (by decide)
    · refine J.iconst d_R_drop_24 (v := nI 0) (by decide) ?_
      refine J.goto d_R_drop_25 (tgt := 33) (by decide) ?_
      exact J.ireturn d_R_drop_33 rfl (by decide) (by decide)
  · exact absurd rfl h
theorem con_R_at1 {i : Nat} (hi : i < os) (ho : os ≤ 32) : Con l i_R_at [.ref 15, .int (nI i)] (RM P K Mo co dr sz al us by_ ln pl os ou rd sp rw Y) (.inl (some (.int (nI (ou i))), (RM P K Mo 0 dr sz al us by_ ln pl os ou rd sp rw Y))) := by
  refine Con.of ?_
  refine J.aload_n d_R_at_0 rfl rfl ?_
  refine J.iload_n d_R_at_1 rfl rfl ?_
  refine J.if_ltN d_R_at_2 (tgt := 13) (by decide) (by omega) (fun _ => ?_)
  refine J.iload_n d_R_at_5 rfl rfl ?_
  refine J.aload_n d_R_at_6 rfl rfl ?_
  refine J.getfield d_R_at_7 fl_R_118 rfl rfl ?_
  refine J.icmp_ltN d_R_at_10 (tgt := 17) (by decide) (by omega) (by omega) (fun h => ?_) (fun h => ?_)
  · refine J.iconst d_R_at_17 (v := nI 0) (by decide) ?_
    refine J.putfield d_R_at_18 (fs_R_59 _) rfl (Nat.le_of_ble_eq_true rfl) rfl rfl ?_
    refine J.aload_n d_R_at_21 rfl rfl ?_
    refine J.getfield d_R_at_22 fl_R_59 rfl rfl ?_
    refine J.if_leN d_R_at_25 (tgt := 32) (by decide) (by omega) (fun h2 => ?_) (fun h2 => ?_)
    · refine J.aload_n d_R_at_32 rfl rfl ?_
      refine J.getfield d_R_at_33 fl_R_32 rfl rfl ?_
      refine J.iload_n d_R_at_36 rfl rfl ?_
      refine J.ialoadN d_R_at_37 rfl (by omega) (by omega) ?_
      exact J.ireturn d_R_at_38 rfl (by decide) (by decide)
    · exact absurd h2 (by decide)
  · omega
theorem con_R_at0 {x : Int32} (hx : x < 0 ∨ nI os ≤ x) : Con l i_R_at [.ref 15, .int x] (RM P K Mo co dr sz al us by_ ln pl os ou rd sp rw Y) (.inl (some (.int (nI 0)), (RM P K Mo 1 dr sz al us by_ ln pl os ou rd sp rw Y))) := by
  have fin : J l i_R_at 13 [(0, .ref 15), (1, .int x)] [.ref 15] (RM P K Mo co dr sz al us by_ ln pl os ou rd sp rw Y) 0 0 (.inl (some (.int (nI 0)), (RM P K Mo 1 dr sz al us by_ ln pl os ou rd sp rw Y))) := by
    refine J.iconst d_R_at_13 (v := nI 1) (by decide) ?_
    refine J.goto d_R_at_14 (tgt := 18) (by decide) ?_
    refine J.putfield d_R_at_18 (fs_R_59 _) rfl (Nat.le_of_ble_eq_true rfl) rfl rfl ?_
    refine J.aload_n d_R_at_21 rfl rfl ?_
    refine J.getfield d_R_at_22 fl_R_59 rfl rfl ?_
    refine J.if_leN d_R_at_25 (tgt := 32) (by decide) (by omega) (fun h2 => ?_) (fun h2 => ?_)
    · exact absurd h2 (by decide)
    · refine J.iconst d_R_at_28 (v := nI 0) (by decide) ?_
      refine J.goto d_R_at_29 (tgt := 38) (by decide) ?_
      exact J.ireturn d_R_at_38 rfl (by decide) (by decide)
  refine Con.of ?_
  refine J.aload_n d_R_at_0 rfl rfl ?_
  refine J.iload_n d_R_at_1 rfl rfl ?_
  refine J.if_lt d_R_at_2 (tgt := 13) (by decide) (fun _ => fin) (fun h => ?_)
  refine J.iload_n d_R_at_5 rfl rfl ?_
  refine J.aload_n d_R_at_6 rfl rfl ?_
  refine J.getfield d_R_at_7 fl_R_118 rfl rfl ?_
  refine J.icmp_lt d_R_at_10 (tgt := 17) (by decide) (fun h2 => absurd h2 (Int32.not_lt.mpr (hx.resolve_left h))) (fun _ => fin)
theorem con_R_renew1 {d : Nat} (hd : d < 8) (ha : al d = 0) (h2 : ∀ i, al i < 2) : Con l i_R_renew [.ref 15, .int (nI d)] (RM P K Mo co dr sz al us by_ ln pl os ou rd sp rw Y) (.inl (some (.int (nI (cs (up al d 1) 8))), (RM P K Mo 0 dr sz (up al d 1) us by_ ln pl os ou rd sp rw Y))) := by
  have hu := up_lt (i := d) (v := 1) h2 (by decide)
  have lp : ∀ (j i : Nat), i + j = 8 → J l i_R_renew 49 [(0, .ref 15), (1, .int (nI d)), (2, .int (nI (cs (up al d 1) i))), (3, .int (nI i))] [] (RM P K Mo 0 dr sz (up al d 1) us by_ ln pl os ou rd sp rw Y) 0 0 (.inl (some (.int (nI (cs (up al d 1) 8))), (RM P K Mo 0 dr sz (up al d 1) us by_ ln pl os ou rd sp rw Y))) := by
    intro j
    induction j with
    | zero =>
      intro i hi
      have hi' : i = 8 := by omega
      rw [hi']
      refine J.iload_n d_R_renew_49 rfl rfl ?_
      refine J.bipush d_R_renew_50 (v := nI 8) (by decide) ?_
      refine J.icmp_geN d_R_renew_52 (tgt := 78) (by decide) (by omega) (by omega) (fun h => ?_) (fun h => ?_)
      · refine J.iload_n d_R_renew_78 rfl rfl ?_
        exact J.ireturn d_R_renew_79 rfl (by decide) (by decide)
      · omega
    | succ j ihj =>
      intro i hi
      have ih := ihj (i + 1) (by omega)
      have hui := hu i
      have e : cs (up al d 1) (i + 1) = cs (up al d 1) i + up al d 1 i := rfl
      rw [e] at ih
      refine J.iload_n d_R_renew_49 rfl rfl ?_
      refine J.bipush d_R_renew_50 (v := nI 8) (by decide) ?_
      refine J.icmp_geN d_R_renew_52 (tgt := 78) (by decide) (by omega) (by omega) (fun h => ?_) (fun h => ?_)
      · omega
      refine J.aload_n d_R_renew_55 rfl rfl ?_
      refine J.getfield d_R_renew_56 fl_R_13 rfl rfl ?_
      refine J.iload_n d_R_renew_59 rfl rfl ?_
      refine J.baloadN d_R_renew_60 rfl (by omega) (by omega) ?_
      refine J.if_eqN d_R_renew_61 (tgt := 70) (by decide) (by omega) (fun h3 => ?_) (fun h3 => ?_)
      · rw [h3] at ih
        refine J.iload_n d_R_renew_70 rfl rfl ?_
        refine J.istore_n d_R_renew_71 rfl (by decide) rfl ?_
        refine J.iincN d_R_renew_72 rfl rfl (by decide) rfl ?_
        refine J.goto d_R_renew_75 (tgt := 49) (by decide) ?_
        exact ih
      · rw [show up al d 1 i = 1 by omega] at ih
        refine J.iload_n d_R_renew_64 rfl rfl ?_
        refine J.iconst d_R_renew_65 (v := nI 1) (by decide) ?_
        refine J.iaddN d_R_renew_66 ?_
        refine J.goto d_R_renew_67 (tgt := 71) (by decide) ?_
        refine J.istore_n d_R_renew_71 rfl (by decide) rfl ?_
        refine J.iincN d_R_renew_72 rfl rfl (by decide) rfl ?_
        refine J.goto d_R_renew_75 (tgt := 49) (by decide) ?_
        exact ih
  refine Con.of ?_
  refine J.aload_n d_R_renew_0 rfl rfl ?_
  refine J.iload_n d_R_renew_1 rfl rfl ?_
  refine J.s1i (con_R_isDisk1 hd _) k_R_renew_R_isDisk d_R_renew_2 rfl ?_
  refine J.if_neN d_R_renew_5 (tgt := 12) (by decide) (by omega) (fun h => ?_) (fun h => ?_)
  · refine J.aload_n d_R_renew_12 rfl rfl ?_
    refine J.getfield d_R_renew_13 fl_R_13 rfl rfl ?_
    refine J.iload_n d_R_renew_16 rfl rfl ?_
    refine J.baloadN d_R_renew_17 rfl (by omega) (by omega) ?_
    rw [ha]
    refine J.if_eqN d_R_renew_18 (tgt := 25) (by decide) (by omega) (fun h3 => ?_) (fun h3 => ?_)
    · refine J.iconst d_R_renew_25 (v := nI 0) (by decide) ?_
      refine J.putfield d_R_renew_26 (fs_R_59 _) rfl (Nat.le_of_ble_eq_true rfl) rfl rfl ?_
      refine J.aload_n d_R_renew_29 rfl rfl ?_
      refine J.getfield d_R_renew_30 fl_R_59 rfl rfl ?_
      refine J.if_leN d_R_renew_33 (tgt := 38) (by decide) (by omega) (fun h4 => ?_) (fun h4 => ?_)
      · refine J.aload_n d_R_renew_38 rfl rfl ?_
        refine J.getfield d_R_renew_39 fl_R_13 rfl rfl ?_
        refine J.iload_n d_R_renew_42 rfl rfl ?_
        refine J.iconst d_R_renew_43 (v := nI 1) (by decide) ?_
        refine J.bastoreN d_R_renew_44 rfl (by omega) (by omega) (by omega) ?_
        refine J.iconst d_R_renew_45 (v := nI 0) (by decide) ?_
        refine J.istore_n d_R_renew_46 rfl (by decide) rfl ?_
        refine J.iconst d_R_renew_47 (v := nI 0) (by decide) ?_
        refine J.istore_n d_R_renew_48 rfl (by decide) rfl ?_
        exact lp 8 0 (by omega)
      · exact absurd h4 (by decide)
    · exact absurd rfl h3
  · exact absurd h (by decide)
theorem con_R_renew0 {x : Int32} (hx : x < 0 ∨ nI 8 ≤ x) : Con l i_R_renew [.ref 15, .int x] (RM P K Mo co dr sz al us by_ ln pl os ou rd sp rw Y) (.inl (some (.int (nI 0)), (RM P K Mo 1 dr sz al us by_ ln pl os ou rd sp rw Y))) := by
  refine Con.of ?_
  refine J.aload_n d_R_renew_0 rfl rfl ?_
  refine J.iload_n d_R_renew_1 rfl rfl ?_
  refine J.s1i (con_R_isDisk0 hx _) k_R_renew_R_isDisk d_R_renew_2 rfl ?_
  refine J.if_neN d_R_renew_5 (tgt := 12) (by decide) (by omega) (fun h => ?_) (fun h => ?_)
  · exact absurd rfl h
  · refine J.iconst d_R_renew_8 (v := nI 1) (by decide) ?_
    refine J.goto d_R_renew_9 (tgt := 26) (by decide) ?_
    refine J.putfield d_R_renew_26 (fs_R_59 _) rfl (Nat.le_of_ble_eq_true rfl) rfl rfl ?_
    refine J.aload_n d_R_renew_29 rfl rfl ?_
    refine J.getfield d_R_renew_30 fl_R_59 rfl rfl ?_
    refine J.if_leN d_R_renew_33 (tgt := 38) (by decide) (by omega) (fun h4 => ?_) (fun h4 => ?_)
    · exact absurd h4 (by decide)
    · refine J.iconst d_R_renew_36 (v := nI 0) (by decide) ?_
      exact J.ireturn d_R_renew_37 rfl (by decide) (by decide)
theorem con_R_renew2 {d : Nat} (hd : d < 8) (ha : al d = 1) : Con l i_R_renew [.ref 15, .int (nI d)] (RM P K Mo co dr sz al us by_ ln pl os ou rd sp rw Y) (.inl (some (.int (nI 0)), (RM P K Mo 2 dr sz al us by_ ln pl os ou rd sp rw Y))) := by
  refine Con.of ?_
  refine J.aload_n d_R_renew_0 rfl rfl ?_
  refine J.iload_n d_R_renew_1 rfl rfl ?_
  refine J.s1i (con_R_isDisk1 hd _) k_R_renew_R_isDisk d_R_renew_2 rfl ?_
  refine J.if_neN d_R_renew_5 (tgt := 12) (by decide) (by omega) (fun h => ?_) (fun h => ?_)
  · refine J.aload_n d_R_renew_12 rfl rfl ?_
    refine J.getfield d_R_renew_13 fl_R_13 rfl rfl ?_
    refine J.iload_n d_R_renew_16 rfl rfl ?_
    refine J.baloadN d_R_renew_17 rfl (by omega) (by omega) ?_
    rw [ha]
    refine J.if_eqN d_R_renew_18 (tgt := 25) (by decide) (by omega) (fun h3 => ?_) (fun h3 => ?_)
    · exact absurd h3 (by decide)
    · refine J.iconst d_R_renew_21 (v := nI 2) (by decide) ?_
      refine J.goto d_R_renew_22 (tgt := 26) (by decide) ?_
      refine J.putfield d_R_renew_26 (fs_R_59 _) rfl (Nat.le_of_ble_eq_true rfl) rfl rfl ?_
      refine J.aload_n d_R_renew_29 rfl rfl ?_
      refine J.getfield d_R_renew_30 fl_R_59 rfl rfl ?_
      refine J.if_leN d_R_renew_33 (tgt := 38) (by decide) (by omega) (fun h4 => ?_) (fun h4 => ?_)
      · exact absurd h4 (by decide)
      · refine J.iconst d_R_renew_36 (v := nI 0) (by decide) ?_
        exact J.ireturn d_R_renew_37 rfl (by decide) (by decide)
  · exact absurd h (by decide)
theorem con_R_ref0 {d s i : Nat} (hd : d < 8) (hs : s < 10) (hi : i < 4) (hu : us (10 * d + s) = 1) : Con l i_R_refusal [.ref 15, .int (nI d), .int (nI s), .int (nI i)] (RM P K Mo co dr sz al us by_ ln pl os ou rd sp rw Y) (.inl (some (.int (nI 0)), (RM P K Mo co dr sz al us by_ ln pl os ou rd sp rw Y))) := by
  refine Con.of ?_
  refine J.iload_n d_R_refusal_0 rfl rfl ?_
  refine J.s1i (con_R_isDisk1 hd _) k_R_refusal_R_isDisk d_R_refusal_1 rfl ?_
  refine J.if_eqN d_R_refusal_4 (tgt := 26) (by decide) (by omega) (fun h => ?_) (fun h => ?_)
  · exact absurd h (by decide)
  refine J.iload_n d_R_refusal_7 rfl rfl ?_
  refine J.if_ltN d_R_refusal_8 (tgt := 26) (by decide) (by omega) (fun _ => ?_)
  refine J.iload_n d_R_refusal_11 rfl rfl ?_
  refine J.bipush d_R_refusal_12 (v := nI 9) (by decide) ?_
  refine J.icmp_gtN d_R_refusal_14 (tgt := 26) (by decide) (by omega) (by omega) (fun h => ?_) (fun h => ?_)
  · omega
  refine J.iload_n d_R_refusal_17 rfl rfl ?_
  refine J.if_ltN d_R_refusal_18 (tgt := 26) (by decide) (by omega) (fun _ => ?_)
  refine J.iload_n d_R_refusal_21 rfl rfl ?_
  refine J.iconst d_R_refusal_22 (v := nI 3) (by decide) ?_
  refine J.icmp_leN d_R_refusal_23 (tgt := 30) (by decide) (by omega) (by omega) (fun h => ?_) (fun h => ?_)
  · refine J.aload_n d_R_refusal_30 rfl rfl ?_
    refine J.getfield d_R_refusal_31 fl_R_17 rfl rfl ?_
    refine J.bipush d_R_refusal_34 (v := nI 10) (by decide) ?_
    refine J.iload_n d_R_refusal_36 rfl rfl ?_
    refine J.imulN d_R_refusal_37 ?_
    refine J.iload_n d_R_refusal_38 rfl rfl ?_
    refine J.iaddN d_R_refusal_39 ?_
    refine J.baloadN d_R_refusal_40 rfl (by omega) (by omega) ?_
    rw [hu]
    refine J.if_neN d_R_refusal_41 (tgt := 48) (by decide) (by omega) (fun h3 => ?_) (fun h3 => ?_)
    · refine J.iconst d_R_refusal_48 (v := nI 0) (by decide) ?_
      exact J.ireturn d_R_refusal_49 rfl (by decide) (by decide)
    · exact absurd h3 (by decide)
  · omega
theorem con_R_ref2 {d s i : Nat} (hd : d < 8) (hs : s < 10) (hi : i < 4) (hu : us (10 * d + s) = 0) : Con l i_R_refusal [.ref 15, .int (nI d), .int (nI s), .int (nI i)] (RM P K Mo co dr sz al us by_ ln pl os ou rd sp rw Y) (.inl (some (.int (nI 2)), (RM P K Mo co dr sz al us by_ ln pl os ou rd sp rw Y))) := by
  refine Con.of ?_
  refine J.iload_n d_R_refusal_0 rfl rfl ?_
  refine J.s1i (con_R_isDisk1 hd _) k_R_refusal_R_isDisk d_R_refusal_1 rfl ?_
  refine J.if_eqN d_R_refusal_4 (tgt := 26) (by decide) (by omega) (fun h => ?_) (fun h => ?_)
  · exact absurd h (by decide)
  refine J.iload_n d_R_refusal_7 rfl rfl ?_
  refine J.if_ltN d_R_refusal_8 (tgt := 26) (by decide) (by omega) (fun _ => ?_)
  refine J.iload_n d_R_refusal_11 rfl rfl ?_
  refine J.bipush d_R_refusal_12 (v := nI 9) (by decide) ?_
  refine J.icmp_gtN d_R_refusal_14 (tgt := 26) (by decide) (by omega) (by omega) (fun h => ?_) (fun h => ?_)
  · omega
  refine J.iload_n d_R_refusal_17 rfl rfl ?_
  refine J.if_ltN d_R_refusal_18 (tgt := 26) (by decide) (by omega) (fun _ => ?_)
  refine J.iload_n d_R_refusal_21 rfl rfl ?_
  refine J.iconst d_R_refusal_22 (v := nI 3) (by decide) ?_
  refine J.icmp_leN d_R_refusal_23 (tgt := 30) (by decide) (by omega) (by omega) (fun h => ?_) (fun h => ?_)
  · refine J.aload_n d_R_refusal_30 rfl rfl ?_
    refine J.getfield d_R_refusal_31 fl_R_17 rfl rfl ?_
    refine J.bipush d_R_refusal_34 (v := nI 10) (by decide) ?_
    refine J.iload_n d_R_refusal_36 rfl rfl ?_
    refine J.imulN d_R_refusal_37 ?_
    refine J.iload_n d_R_refusal_38 rfl rfl ?_
    refine J.iaddN d_R_refusal_39 ?_
    refine J.baloadN d_R_refusal_40 rfl (by omega) (by omega) ?_
    rw [hu]
    refine J.if_neN d_R_refusal_41 (tgt := 48) (by decide) (by omega) (fun h3 => ?_) (fun h3 => ?_)
    · exact absurd rfl h3
    · refine J.iconst d_R_refusal_44 (v := nI 2) (by decide) ?_
      refine J.goto d_R_refusal_45 (tgt := 49) (by decide) ?_
      exact J.ireturn d_R_refusal_49 rfl (by decide) (by decide)
  · omega
theorem gt_of_ge {x : Int32} {a b : Nat} (hb : b = a + 1) (hb2 : b < 2 ^ 31) (h : nI b ≤ x) : nI a < x := by
  rw [Int32.le_iff_toInt_le, nI_toInt hb2] at h
  rw [Int32.lt_iff_toInt_lt, nI_toInt (by omega)]
  omega
theorem con_R_ref1 {d s i : Int32} (hx : noB d s i) : Con l i_R_refusal [.ref 15, .int d, .int s, .int i] (RM P K Mo co dr sz al us by_ ln pl os ou rd sp rw Y) (.inl (some (.int (nI 1)), (RM P K Mo co dr sz al us by_ ln pl os ou rd sp rw Y))) := by
  have fin : ∀ {lv}, J l i_R_refusal 26 lv [] (RM P K Mo co dr sz al us by_ ln pl os ou rd sp rw Y) 0 0 (.inl (some (.int (nI 1)), (RM P K Mo co dr sz al us by_ ln pl os ou rd sp rw Y))) := by
    intro lv
    refine J.iconst d_R_refusal_26 (v := nI 1) (by decide) ?_
    refine J.goto d_R_refusal_27 (tgt := 49) (by decide) ?_
    exact J.ireturn d_R_refusal_49 rfl (by decide) (by decide)
  rcases hx with hx | ⟨⟨d', hd, rfl⟩, hx⟩
  · refine Con.of ?_
    refine J.iload_n d_R_refusal_0 rfl rfl ?_
    refine J.s1i (con_R_isDisk0 hx _) k_R_refusal_R_isDisk d_R_refusal_1 rfl ?_
    refine J.if_eqN d_R_refusal_4 (tgt := 26) (by decide) (by omega) (fun h => ?_) (fun h => ?_)
    · exact fin
    · exact absurd rfl h
  · refine Con.of ?_
    refine J.iload_n d_R_refusal_0 rfl rfl ?_
    refine J.s1i (con_R_isDisk1 hd _) k_R_refusal_R_isDisk d_R_refusal_1 rfl ?_
    refine J.if_eqN d_R_refusal_4 (tgt := 26) (by decide) (by omega) (fun h => ?_) (fun h => ?_)
    · exact absurd h (by decide)
    refine J.iload_n d_R_refusal_7 rfl rfl ?_
    refine J.if_lt d_R_refusal_8 (tgt := 26) (by decide) (fun _ => fin) (fun h1 => ?_)
    refine J.iload_n d_R_refusal_11 rfl rfl ?_
    refine J.bipush d_R_refusal_12 (v := nI 9) (by decide) ?_
    refine J.icmp_gt d_R_refusal_14 (tgt := 26) (by decide) (fun _ => fin) (fun h2 => ?_)
    refine J.iload_n d_R_refusal_17 rfl rfl ?_
    refine J.if_lt d_R_refusal_18 (tgt := 26) (by decide) (fun _ => fin) (fun h3 => ?_)
    refine J.iload_n d_R_refusal_21 rfl rfl ?_
    refine J.iconst d_R_refusal_22 (v := nI 3) (by decide) ?_
    refine J.icmp_le d_R_refusal_23 (tgt := 30) (by decide) (fun h4 => ?_) (fun _ => fin)
    exfalso
    rcases hx with z | z | z | z
    · exact h1 z
    · exact h2 (gt_of_ge rfl (by decide) z)
    · exact h3 z
    · exact absurd (gt_of_ge (a := 3) rfl (by decide) z) (Int32.not_lt.mpr h4)
theorem con_R_stored1 {d s i : Nat} (hd : d < 8) (hs : s < 10) (hi : i < 4) (hu : us (10 * d + s) = 1) : Con l i_R_stored [.ref 15, .int (nI d), .int (nI s), .int (nI i)] (RM P K Mo co dr sz al us by_ ln pl os ou rd sp rw Y) (.inl (some (.int (nI (by_ (4 * (10 * d + s) + i)))), (RM P K Mo 0 dr sz al us by_ ln pl os ou rd sp rw Y))) := by
  rw [show 4 * (10 * d + s) + i = 40 * d + 4 * s + i by omega]
  refine Con.of ?_
  refine J.aload_n d_R_stored_0 rfl rfl ?_
  refine J.aload_n d_R_stored_1 rfl rfl ?_
  refine J.iload_n d_R_stored_2 rfl rfl ?_
  refine J.iload_n d_R_stored_3 rfl rfl ?_
  refine J.iload_n d_R_stored_4 rfl rfl ?_
  refine J.v3i (con_R_ref0 hd hs hi hu) k_R_stored_R_refusal d_R_stored_5 rfl rfl rfl ?_
  refine J.putfield d_R_stored_8 (fs_R_59 _) rfl (Nat.le_of_ble_eq_true rfl) rfl rfl ?_
  refine J.aload_n d_R_stored_11 rfl rfl ?_
  refine J.getfield d_R_stored_12 fl_R_59 rfl rfl ?_
  refine J.if_leN d_R_stored_15 (tgt := 22) (by decide) (by omega) (fun h => ?_) (fun h => ?_)
  · refine J.aload_n d_R_stored_22 rfl rfl ?_
    refine J.getfield d_R_stored_23 fl_R_20 rfl rfl ?_
    refine J.bipush d_R_stored_26 (v := nI 40) (by decide) ?_
    refine J.iload_n d_R_stored_28 rfl rfl ?_
    refine J.imulN d_R_stored_29 ?_
    refine J.iconst d_R_stored_30 (v := nI 4) (by decide) ?_
    refine J.iload_n d_R_stored_31 rfl rfl ?_
    refine J.imulN d_R_stored_32 ?_
    refine J.iaddN d_R_stored_33 ?_
    refine J.iload_n d_R_stored_34 rfl rfl ?_
    refine J.iaddN d_R_stored_35 ?_
    refine J.ialoadN d_R_stored_36 rfl (by omega) (by omega) ?_
    exact J.ireturn d_R_stored_37 rfl (by decide) (by decide)
  · exact absurd h (by decide)
theorem con_R_stored2 {d s i : Nat} (hd : d < 8) (hs : s < 10) (hi : i < 4) (hu : us (10 * d + s) = 0) : Con l i_R_stored [.ref 15, .int (nI d), .int (nI s), .int (nI i)] (RM P K Mo co dr sz al us by_ ln pl os ou rd sp rw Y) (.inl (some (.int (nI 0)), (RM P K Mo 2 dr sz al us by_ ln pl os ou rd sp rw Y))) := by
  refine Con.of ?_
  refine J.aload_n d_R_stored_0 rfl rfl ?_
  refine J.aload_n d_R_stored_1 rfl rfl ?_
  refine J.iload_n d_R_stored_2 rfl rfl ?_
  refine J.iload_n d_R_stored_3 rfl rfl ?_
  refine J.iload_n d_R_stored_4 rfl rfl ?_
  refine J.v3i (con_R_ref2 hd hs hi hu) k_R_stored_R_refusal d_R_stored_5 rfl rfl rfl ?_
  refine J.putfield d_R_stored_8 (fs_R_59 _) rfl (Nat.le_of_ble_eq_true rfl) rfl rfl ?_
  refine J.aload_n d_R_stored_11 rfl rfl ?_
  refine J.getfield d_R_stored_12 fl_R_59 rfl rfl ?_
  refine J.if_leN d_R_stored_15 (tgt := 22) (by decide) (by omega) (fun h => ?_) (fun h => ?_)
  · exact absurd h (by decide)
  · refine J.iconst d_R_stored_18 (v := nI 0) (by decide) ?_
    refine J.goto d_R_stored_19 (tgt := 37) (by decide) ?_
    exact J.ireturn d_R_stored_37 rfl (by decide) (by decide)
theorem con_R_stored0 {d s i : Int32} (hx : noB d s i) : Con l i_R_stored [.ref 15, .int d, .int s, .int i] (RM P K Mo co dr sz al us by_ ln pl os ou rd sp rw Y) (.inl (some (.int (nI 0)), (RM P K Mo 1 dr sz al us by_ ln pl os ou rd sp rw Y))) := by
  refine Con.of ?_
  refine J.aload_n d_R_stored_0 rfl rfl ?_
  refine J.aload_n d_R_stored_1 rfl rfl ?_
  refine J.iload_n d_R_stored_2 rfl rfl ?_
  refine J.iload_n d_R_stored_3 rfl rfl ?_
  refine J.iload_n d_R_stored_4 rfl rfl ?_
  refine J.v3i (con_R_ref1 hx) k_R_stored_R_refusal d_R_stored_5 rfl rfl rfl ?_
  refine J.putfield d_R_stored_8 (fs_R_59 _) rfl (Nat.le_of_ble_eq_true rfl) rfl rfl ?_
  refine J.aload_n d_R_stored_11 rfl rfl ?_
  refine J.getfield d_R_stored_12 fl_R_59 rfl rfl ?_
  refine J.if_leN d_R_stored_15 (tgt := 22) (by decide) (by omega) (fun h => ?_) (fun h => ?_)
  · exact absurd h (by decide)
  · refine J.iconst d_R_stored_18 (v := nI 0) (by decide) ?_
    refine J.goto d_R_stored_19 (tgt := 37) (by decide) ?_
    exact J.ireturn d_R_stored_37 rfl (by decide) (by decide)
theorem con_R_harm1 {d s i : Nat} {x : Int32} (hd : d < 8) (hs : s < 10) (hi : i < 4) (hu : us (10 * d + s) = 1) : Con l i_R_harm [.ref 15, .int (nI d), .int (nI s), .int (nI i), .int x] (RM P K Mo co dr sz al us by_ ln pl os ou rd sp rw Y) (.inl (some (.int (nI (by_ (4 * (10 * d + s) + i) ^^^ (x.toBitVec.toNat % 256)))), (RM P K Mo 0 dr sz al us (up by_ (4 * (10 * d + s) + i) (by_ (4 * (10 * d + s) + i) ^^^ (x.toBitVec.toNat % 256))) ln pl os ou rd sp rw Y))) := by
  rw [show 4 * (10 * d + s) + i = 40 * d + 4 * s + i by omega]
  refine Con.of ?_
  refine J.aload_n d_R_harm_0 rfl rfl ?_
  refine J.aload_n d_R_harm_1 rfl rfl ?_
  refine J.iload_n d_R_harm_2 rfl rfl ?_
  refine J.iload_n d_R_harm_3 rfl rfl ?_
  refine J.iload_n d_R_harm_4 rfl rfl ?_
  refine J.v3i (con_R_ref0 hd hs hi hu) k_R_harm_R_refusal d_R_harm_5 rfl rfl rfl ?_
  refine J.putfield d_R_harm_8 (fs_R_59 _) rfl (Nat.le_of_ble_eq_true rfl) rfl rfl ?_
  refine J.aload_n d_R_harm_11 rfl rfl ?_
  refine J.getfield d_R_harm_12 fl_R_59 rfl rfl ?_
  refine J.if_leN d_R_harm_15 (tgt := 20) (by decide) (by omega) (fun h => ?_) (fun h => ?_)
  · refine J.bipush d_R_harm_20 (v := nI 40) (by decide) ?_
    refine J.iload_n d_R_harm_22 rfl rfl ?_
    refine J.imulN d_R_harm_23 ?_
    refine J.iconst d_R_harm_24 (v := nI 4) (by decide) ?_
    refine J.iload_n d_R_harm_25 rfl rfl ?_
    refine J.imulN d_R_harm_26 ?_
    refine J.iaddN d_R_harm_27 ?_
    refine J.iload_n d_R_harm_28 rfl rfl ?_
    refine J.iaddN d_R_harm_29 ?_
    refine J.istore d_R_harm_30 (by decide) rfl ?_
    refine J.aload_n d_R_harm_32 rfl rfl ?_
    refine J.getfield d_R_harm_33 fl_R_20 rfl rfl ?_
    refine J.iload d_R_harm_36 rfl ?_
    refine J.aload_n d_R_harm_38 rfl rfl ?_
    refine J.getfield d_R_harm_39 fl_R_20 rfl rfl ?_
    refine J.iload d_R_harm_42 rfl ?_
    refine J.ialoadN d_R_harm_44 rfl (by omega) (by omega) ?_
    refine J.iload d_R_harm_45 rfl ?_
    refine J.sipush d_R_harm_47 (v := nI 255) (by decide) ?_
    refine J.iand d_R_harm_50 ?_
    rw [and255]
    refine J.ixorN d_R_harm_51 ?_
    refine J.iastoreN d_R_harm_52 rfl (by omega) (by omega) ?_
    refine J.aload_n d_R_harm_53 rfl rfl ?_
    refine J.getfield d_R_harm_54 fl_R_20 rfl rfl ?_
    refine J.iload d_R_harm_57 rfl ?_
    refine J.ialoadN d_R_harm_59 rfl (by omega) (by omega) ?_
    rw [up_self]
    exact J.ireturn d_R_harm_60 rfl (by decide) (by decide)
  · exact absurd h (by decide)
theorem con_R_harm2 {d s i : Nat} {x : Int32} (hd : d < 8) (hs : s < 10) (hi : i < 4) (hu : us (10 * d + s) = 0) : Con l i_R_harm [.ref 15, .int (nI d), .int (nI s), .int (nI i), .int x] (RM P K Mo co dr sz al us by_ ln pl os ou rd sp rw Y) (.inl (some (.int (nI 0)), (RM P K Mo 2 dr sz al us by_ ln pl os ou rd sp rw Y))) := by
  refine Con.of ?_
  refine J.aload_n d_R_harm_0 rfl rfl ?_
  refine J.aload_n d_R_harm_1 rfl rfl ?_
  refine J.iload_n d_R_harm_2 rfl rfl ?_
  refine J.iload_n d_R_harm_3 rfl rfl ?_
  refine J.iload_n d_R_harm_4 rfl rfl ?_
  refine J.v3i (con_R_ref2 hd hs hi hu) k_R_harm_R_refusal d_R_harm_5 rfl rfl rfl ?_
  refine J.putfield d_R_harm_8 (fs_R_59 _) rfl (Nat.le_of_ble_eq_true rfl) rfl rfl ?_
  refine J.aload_n d_R_harm_11 rfl rfl ?_
  refine J.getfield d_R_harm_12 fl_R_59 rfl rfl ?_
  refine J.if_leN d_R_harm_15 (tgt := 20) (by decide) (by omega) (fun h => ?_) (fun h => ?_)
  · exact absurd h (by decide)
  · refine J.iconst d_R_harm_18 (v := nI 0) (by decide) ?_
    exact J.ireturn d_R_harm_19 rfl (by decide) (by decide)
theorem con_R_harm0 {d s i x : Int32} (hx : noB d s i) : Con l i_R_harm [.ref 15, .int d, .int s, .int i, .int x] (RM P K Mo co dr sz al us by_ ln pl os ou rd sp rw Y) (.inl (some (.int (nI 0)), (RM P K Mo 1 dr sz al us by_ ln pl os ou rd sp rw Y))) := by
  refine Con.of ?_
  refine J.aload_n d_R_harm_0 rfl rfl ?_
  refine J.aload_n d_R_harm_1 rfl rfl ?_
  refine J.iload_n d_R_harm_2 rfl rfl ?_
  refine J.iload_n d_R_harm_3 rfl rfl ?_
  refine J.iload_n d_R_harm_4 rfl rfl ?_
  refine J.v3i (con_R_ref1 hx) k_R_harm_R_refusal d_R_harm_5 rfl rfl rfl ?_
  refine J.putfield d_R_harm_8 (fs_R_59 _) rfl (Nat.le_of_ble_eq_true rfl) rfl rfl ?_
  refine J.aload_n d_R_harm_11 rfl rfl ?_
  refine J.getfield d_R_harm_12 fl_R_59 rfl rfl ?_
  refine J.if_leN d_R_harm_15 (tgt := 20) (by decide) (by omega) (fun h => ?_) (fun h => ?_)
  · exact absurd h (by decide)
  · refine J.iconst d_R_harm_18 (v := nI 0) (by decide) ?_
    exact J.ireturn d_R_harm_19 rfl (by decide) (by decide)
theorem con_R_where1 {o s h : Nat} (hK : 0 < K) (hK4 : K ≤ 4) (hS : K + Mo ≤ 7) (hp : ∀ i, pl i ≤ 80) (ho : o < 6) (hl : 0 < ln o) (hln : ln o ≤ 32) (hs : s < ns K (ln o)) (hh : h < K + Mo) : Con l i_R_where [.ref 15, .int (nI o), .int (nI s), .int (nI h)] (RM P K Mo co dr sz al us by_ ln pl os ou rd sp rw Y) (.inl (some (.int (pI (tr (pl (56 * o + 7 * s + h))))), (RM P K Mo 0 dr sz al us by_ ln pl os ou rd sp rw Y))) := by
  have hn8 := ns_le hK hln
  have hs8 : s < 8 := by omega
  have hpi := hp (56 * o + 7 * s + h)
  refine Con.of ?_
  refine J.aload_n d_R_where_0 rfl rfl ?_
  refine J.aload_n d_R_where_1 rfl rfl ?_
  refine J.iload_n d_R_where_2 rfl rfl ?_
  refine J.v1i (con_R_isThere1 ho hl hln) k_R_where_R_isThere d_R_where_3 rfl rfl rfl ?_
  refine J.if_neN d_R_where_6 (tgt := 13) (by decide) (by omega) (fun h1 => ?_) (fun h1 => ?_)
  · refine J.iload_n d_R_where_13 rfl rfl ?_
    refine J.if_ltN d_R_where_14 (tgt := 38) (by decide) (by omega) (fun _ => ?_)
    refine J.iload_n d_R_where_17 rfl rfl ?_
    refine J.aload_n d_R_where_18 rfl rfl ?_
    refine J.iload_n d_R_where_19 rfl rfl ?_
    refine J.v1i (con_R_stripesOf ho hK hK4 (by omega)) k_R_where_R_stripesOf d_R_where_20 rfl rfl rfl ?_
    refine J.icmp_geN d_R_where_23 (tgt := 38) (by decide) (by omega) (by omega) (fun h2 => ?_) (fun h2 => ?_)
    · omega
    refine J.iload_n d_R_where_26 rfl rfl ?_
    refine J.if_ltN d_R_where_27 (tgt := 38) (by decide) (by omega) (fun _ => ?_)
    refine J.iload_n d_R_where_30 rfl rfl ?_
    refine J.aload_n d_R_where_31 rfl rfl ?_
    refine J.v0i con_R_shards k_R_where_R_shards d_R_where_32 rfl rfl rfl ?_
    refine J.icmp_ltN d_R_where_35 (tgt := 42) (by decide) (by omega) (by omega) (fun h3 => ?_) (fun h3 => ?_)
    · refine J.iconst d_R_where_42 (v := nI 0) (by decide) ?_
      refine J.putfield d_R_where_43 (fs_R_59 _) rfl (Nat.le_of_ble_eq_true rfl) rfl rfl ?_
      refine J.aload_n d_R_where_46 rfl rfl ?_
      refine J.getfield d_R_where_47 fl_R_59 rfl rfl ?_
      refine J.if_leN d_R_where_50 (tgt := 55) (by decide) (by omega) (fun h4 => ?_) (fun h4 => ?_)
      · refine J.aload_n d_R_where_55 rfl rfl ?_
        refine J.iload_n d_R_where_56 rfl rfl ?_
        refine J.iload_n d_R_where_57 rfl rfl ?_
        refine J.iload_n d_R_where_58 rfl rfl ?_
        have hc := con_R_place (l := l) (P := P) (K := K) (Mo := Mo) (co := 0) (sz := sz) (os := os) (dr := dr) (al := al) (us := us) (by_ := by_) (ln := ln) (pl := pl) (ou := ou) (rd := rd) (sp := sp) (rw := rw) (Y := Y) ho hs8 (show h < 7 by omega)
        rcases Nat.eq_zero_or_pos (pl (56 * o + 7 * s + h)) with h0 | h0
        · rw [h0] at hc ⊢
          refine J.v3i hc k_R_where_R_place d_R_where_59 rfl rfl rfl ?_
          refine J.istore d_R_where_62 (by decide) rfl ?_
          refine J.iload d_R_where_64 rfl ?_
          refine J.if_geP d_R_where_66 (tgt := 73) (by decide) (by decide) (fun q => absurd q (by decide)) (fun _ => ?_)
          refine J.iconst d_R_where_69 (v := pI 0) (by decide) ?_
          refine J.goto d_R_where_70 (tgt := 87) (by decide) ?_
          exact J.ireturn d_R_where_87 rfl (by decide) (by decide)
        · obtain ⟨p, ep⟩ : ∃ p, pl (56 * o + 7 * s + h) = p + 1 := ⟨pl (56 * o + 7 * s + h) - 1, by omega⟩
          rw [ep, pI_succ] at hc
          rw [ep, tr_s, pI_succ]
          refine J.v3i hc k_R_where_R_place d_R_where_59 rfl rfl rfl ?_
          refine J.istore d_R_where_62 (by decide) rfl ?_
          refine J.iload d_R_where_64 rfl ?_
          refine J.if_geN d_R_where_66 (tgt := 73) (by decide) (by omega) (fun _ => ?_)
          refine J.bipush d_R_where_73 (v := nI 16) (by decide) ?_
          refine J.iload d_R_where_75 rfl ?_
          refine J.bipush d_R_where_77 (v := nI 10) (by decide) ?_
          refine J.idivN d_R_where_79 (by omega) (by omega) (by omega) ?_
          refine J.imulN d_R_where_80 ?_
          refine J.iload d_R_where_81 rfl ?_
          refine J.bipush d_R_where_83 (v := nI 10) (by decide) ?_
          refine J.iremN d_R_where_85 (by omega) (by omega) (by omega) ?_
          refine J.iaddN d_R_where_86 ?_
          exact J.ireturn d_R_where_87 rfl (by decide) (by decide)
      · exact absurd h4 (by decide)
    · omega
  · exact absurd h1 (by decide)
theorem con_R_where0 {x y z : Int32} (hx : noO ln x) : Con l i_R_where [.ref 15, .int x, .int y, .int z] (RM P K Mo co dr sz al us by_ ln pl os ou rd sp rw Y) (.inl (some (.int (nI 0)), (RM P K Mo 1 dr sz al us by_ ln pl os ou rd sp rw Y))) := by
  refine Con.of ?_
  refine J.aload_n d_R_where_0 rfl rfl ?_
  refine J.aload_n d_R_where_1 rfl rfl ?_
  refine J.iload_n d_R_where_2 rfl rfl ?_
  refine J.v1i (con_R_isThere0 hx) k_R_where_R_isThere d_R_where_3 rfl rfl rfl ?_
  refine J.if_neN d_R_where_6 (tgt := 13) (by decide) (by omega) (fun h => ?_) (fun h => ?_)
  · exact absurd rfl h
  · refine J.iconst d_R_where_9 (v := nI 1) (by decide) ?_
    refine J.goto d_R_where_10 (tgt := 43) (by decide) ?_
    refine J.putfield d_R_where_43 (fs_R_59 _) rfl (Nat.le_of_ble_eq_true rfl) rfl rfl ?_
    refine J.aload_n d_R_where_46 rfl rfl ?_
    refine J.getfield d_R_where_47 fl_R_59 rfl rfl ?_
    refine J.if_leN d_R_where_50 (tgt := 55) (by decide) (by omega) (fun h4 => ?_) (fun h4 => ?_)
    · exact absurd h4 (by decide)
    · refine J.iconst d_R_where_53 (v := nI 0) (by decide) ?_
      exact J.ireturn d_R_where_54 rfl (by decide) (by decide)
theorem con_R_where2 {o : Nat} {y z : Int32} (hK : 0 < K) (hK4 : K ≤ 4) (ho : o < 6) (hl : 0 < ln o) (hln : ln o ≤ 32) (hx : y < 0 ∨ nI (ns K (ln o)) ≤ y ∨ z < 0 ∨ nI (K + Mo) ≤ z) : Con l i_R_where [.ref 15, .int (nI o), .int y, .int z] (RM P K Mo co dr sz al us by_ ln pl os ou rd sp rw Y) (.inl (some (.int (nI 0)), (RM P K Mo 2 dr sz al us by_ ln pl os ou rd sp rw Y))) := by
  have fin : ∀ {k n}, k = 0 → n = 0 → J l i_R_where 38 [(0, .ref 15), (1, .int (nI o)), (2, .int y), (3, .int z)] [.ref 15] (RM P K Mo co dr sz al us by_ ln pl os ou rd sp rw Y) k n (.inl (some (.int (nI 0)), (RM P K Mo 2 dr sz al us by_ ln pl os ou rd sp rw Y))) := by
    intro k n hk hn
    subst hk hn
    refine J.iconst d_R_where_38 (v := nI 2) (by decide) ?_
    refine J.goto d_R_where_39 (tgt := 43) (by decide) ?_
    refine J.putfield d_R_where_43 (fs_R_59 _) rfl (Nat.le_of_ble_eq_true rfl) rfl rfl ?_
    refine J.aload_n d_R_where_46 rfl rfl ?_
    refine J.getfield d_R_where_47 fl_R_59 rfl rfl ?_
    refine J.if_leN d_R_where_50 (tgt := 55) (by decide) (by omega) (fun h4 => ?_) (fun h4 => ?_)
    · exact absurd h4 (by decide)
    · refine J.iconst d_R_where_53 (v := nI 0) (by decide) ?_
      exact J.ireturn d_R_where_54 rfl (by decide) (by decide)
  refine Con.of ?_
  refine J.aload_n d_R_where_0 rfl rfl ?_
  refine J.aload_n d_R_where_1 rfl rfl ?_
  refine J.iload_n d_R_where_2 rfl rfl ?_
  refine J.v1i (con_R_isThere1 ho hl hln) k_R_where_R_isThere d_R_where_3 rfl rfl rfl ?_
  refine J.if_neN d_R_where_6 (tgt := 13) (by decide) (by omega) (fun h1 => ?_) (fun h1 => ?_)
  · refine J.iload_n d_R_where_13 rfl rfl ?_
    refine J.if_lt d_R_where_14 (tgt := 38) (by decide) (fun _ => fin rfl rfl) (fun h1 => ?_)
    refine J.iload_n d_R_where_17 rfl rfl ?_
    refine J.aload_n d_R_where_18 rfl rfl ?_
    refine J.iload_n d_R_where_19 rfl rfl ?_
    refine J.v1i (con_R_stripesOf ho hK hK4 (by omega)) k_R_where_R_stripesOf d_R_where_20 rfl rfl rfl ?_
    refine J.icmp_ge d_R_where_23 (tgt := 38) (by decide) (fun _ => fin rfl rfl) (fun h2 => ?_)
    refine J.iload_n d_R_where_26 rfl rfl ?_
    refine J.if_lt d_R_where_27 (tgt := 38) (by decide) (fun _ => fin rfl rfl) (fun h3 => ?_)
    refine J.iload_n d_R_where_30 rfl rfl ?_
    refine J.aload_n d_R_where_31 rfl rfl ?_
    refine J.v0i con_R_shards k_R_where_R_shards d_R_where_32 rfl rfl rfl ?_
    refine J.icmp_lt d_R_where_35 (tgt := 42) (by decide) (fun h4 => ?_) (fun _ => fin rfl rfl)
    exfalso
    rcases hx with w | w | w | w
    · exact h1 w
    · exact h2 w
    · exact h3 w
    · exact absurd h4 (Int32.not_lt.mpr w)
  · exact absurd h1 (by decide)
theorem con_R_length1 {o : Nat} (ho : o < 6) (hl : 0 < ln o) (hln : ln o ≤ 32) : Con l i_R_length [.ref 15, .int (nI o)] (RM P K Mo co dr sz al us by_ ln pl os ou rd sp rw Y) (.inl (some (.int (nI (ln o))), (RM P K Mo 0 dr sz al us by_ ln pl os ou rd sp rw Y))) := by
  refine Con.of ?_
  refine J.aload_n d_R_length_0 rfl rfl ?_
  refine J.iconst d_R_length_1 (v := nI 0) (by decide) ?_
  refine J.putfield d_R_length_2 (fs_R_59 _) rfl (Nat.le_of_ble_eq_true rfl) rfl rfl ?_
  refine J.aload_n d_R_length_5 rfl rfl ?_
  refine J.iload_n d_R_length_6 rfl rfl ?_
  refine J.v1i (con_R_isThere1 ho hl hln) k_R_length_R_isThere d_R_length_7 rfl rfl rfl ?_
  refine J.if_eqN d_R_length_10 (tgt := 22) (by decide) (by omega) (fun h => ?_) (fun h => ?_)
  · exact absurd h (by decide)
  · refine J.aload_n d_R_length_13 rfl rfl ?_
    refine J.getfield d_R_length_14 fl_R_23 rfl rfl ?_
    refine J.iload_n d_R_length_17 rfl rfl ?_
    refine J.ialoadN d_R_length_18 rfl (by omega) (by omega) ?_
    refine J.goto d_R_length_19 (tgt := 23) (by decide) ?_
    exact J.ireturn d_R_length_23 rfl (by decide) (by decide)
theorem con_R_length0 {x : Int32} (hx : noO ln x) : Con l i_R_length [.ref 15, .int x] (RM P K Mo co dr sz al us by_ ln pl os ou rd sp rw Y) (.inl (some (.int (pI 0)), (RM P K Mo 0 dr sz al us by_ ln pl os ou rd sp rw Y))) := by
  refine Con.of ?_
  refine J.aload_n d_R_length_0 rfl rfl ?_
  refine J.iconst d_R_length_1 (v := nI 0) (by decide) ?_
  refine J.putfield d_R_length_2 (fs_R_59 _) rfl (Nat.le_of_ble_eq_true rfl) rfl rfl ?_
  refine J.aload_n d_R_length_5 rfl rfl ?_
  refine J.iload_n d_R_length_6 rfl rfl ?_
  refine J.v1i (con_R_isThere0 hx) k_R_length_R_isThere d_R_length_7 rfl rfl rfl ?_
  refine J.if_eqN d_R_length_10 (tgt := 22) (by decide) (by omega) (fun h => ?_) (fun h => ?_)
  · refine J.iconst d_R_length_22 (v := pI 0) (by decide) ?_
    exact J.ireturn d_R_length_23 rfl (by decide) (by decide)
  · exact absurd rfl h
theorem con_R_room1 {d : Nat} (hd : d < 8) (ha : al d = 1) (h2 : ∀ i, us i < 2) (ha2 : ∀ i, al i < 2) : Con l i_R_room [.ref 15, .int (nI d)] (RM P K Mo co dr sz al us by_ ln pl os ou rd sp rw Y) (.inl (some (.int (nI (10 - ud us d))), (RM P K Mo 0 dr sz al us by_ ln pl os ou rd sp rw Y))) := by
  have hf := con_R_free (l := l) (P := P) (K := K) (Mo := Mo) (co := 0) (sz := sz) (os := os) (dr := dr) (by_ := by_) (ln := ln) (pl := pl) (ou := ou) (rd := rd) (sp := sp) (rw := rw) (Y := Y) hd h2 ha2
  rw [if_neg (by omega)] at hf
  refine Con.of ?_
  refine J.aload_n d_R_room_0 rfl rfl ?_
  refine J.iconst d_R_room_1 (v := nI 0) (by decide) ?_
  refine J.putfield d_R_room_2 (fs_R_59 _) rfl (Nat.le_of_ble_eq_true rfl) rfl rfl ?_
  refine J.iload_n d_R_room_5 rfl rfl ?_
  refine J.s1i (con_R_isDisk1 hd _) k_R_room_R_isDisk d_R_room_6 rfl ?_
  refine J.if_eqN d_R_room_9 (tgt := 29) (by decide) (by omega) (fun h => ?_) (fun h => ?_)
  · exact absurd h (by decide)
  refine J.aload_n d_R_room_12 rfl rfl ?_
  refine J.getfield d_R_room_13 fl_R_13 rfl rfl ?_
  refine J.iload_n d_R_room_16 rfl rfl ?_
  refine J.baloadN d_R_room_17 rfl (by omega) (by omega) ?_
  rw [ha]
  refine J.if_eqN d_R_room_18 (tgt := 29) (by decide) (by omega) (fun h3 => ?_) (fun h3 => ?_)
  · exact absurd h3 (by decide)
  refine J.aload_n d_R_room_21 rfl rfl ?_
  refine J.iload_n d_R_room_22 rfl rfl ?_
  refine J.v1i hf k_R_room_R_free d_R_room_23 rfl rfl rfl ?_
  refine J.goto d_R_room_26 (tgt := 30) (by decide) ?_
  exact J.ireturn d_R_room_30 rfl (by decide) (by decide)
theorem con_R_room0 {x : Int32} (hx : x < 0 ∨ nI 8 ≤ x ∨ ∃ d, d < 8 ∧ x = nI d ∧ al d = 0) : Con l i_R_room [.ref 15, .int x] (RM P K Mo co dr sz al us by_ ln pl os ou rd sp rw Y) (.inl (some (.int (pI 0)), (RM P K Mo 0 dr sz al us by_ ln pl os ou rd sp rw Y))) := by
  have out : (x < 0 ∨ nI 8 ≤ x) → Con l i_R_room [.ref 15, .int x] (RM P K Mo co dr sz al us by_ ln pl os ou rd sp rw Y) (.inl (some (.int (pI 0)), (RM P K Mo 0 dr sz al us by_ ln pl os ou rd sp rw Y))) := by
    intro hx
    refine Con.of ?_
    refine J.aload_n d_R_room_0 rfl rfl ?_
    refine J.iconst d_R_room_1 (v := nI 0) (by decide) ?_
    refine J.putfield d_R_room_2 (fs_R_59 _) rfl (Nat.le_of_ble_eq_true rfl) rfl rfl ?_
    refine J.iload_n d_R_room_5 rfl rfl ?_
    refine J.s1i (con_R_isDisk0 hx _) k_R_room_R_isDisk d_R_room_6 rfl ?_
    refine J.if_eqN d_R_room_9 (tgt := 29) (by decide) (by omega) (fun h => ?_) (fun h => ?_)
    · refine J.iconst d_R_room_29 (v := pI 0) (by decide) ?_
      exact J.ireturn d_R_room_30 rfl (by decide) (by decide)
    · exact absurd rfl h
  rcases hx with hx | hx | ⟨d, hd, rfl, ha⟩
  · exact out (Or.inl hx)
  · exact out (Or.inr hx)
  · refine Con.of ?_
    refine J.aload_n d_R_room_0 rfl rfl ?_
    refine J.iconst d_R_room_1 (v := nI 0) (by decide) ?_
    refine J.putfield d_R_room_2 (fs_R_59 _) rfl (Nat.le_of_ble_eq_true rfl) rfl rfl ?_
    refine J.iload_n d_R_room_5 rfl rfl ?_
    refine J.s1i (con_R_isDisk1 hd _) k_R_room_R_isDisk d_R_room_6 rfl ?_
    refine J.if_eqN d_R_room_9 (tgt := 29) (by decide) (by omega) (fun h => ?_) (fun h => ?_)
    · exact absurd h (by decide)
    refine J.aload_n d_R_room_12 rfl rfl ?_
    refine J.getfield d_R_room_13 fl_R_13 rfl rfl ?_
    refine J.iload_n d_R_room_16 rfl rfl ?_
    refine J.baloadN d_R_room_17 rfl (by omega) (by omega) ?_
    rw [ha]
    refine J.if_eqN d_R_room_18 (tgt := 29) (by decide) (by omega) (fun h3 => ?_) (fun h3 => ?_)
    · refine J.iconst d_R_room_29 (v := pI 0) (by decide) ?_
      exact J.ireturn d_R_room_30 rfl (by decide) (by decide)
    · exact absurd rfl h3
end REFPUB
end
