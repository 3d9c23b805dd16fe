section
-- ===== PART A: goes FIRST, ahead of the names: the tables' words, and 'selects' of the private methods out of them =====
/-- a private method of a class that the tables say can be made, by its rows of tables_1 -/
def lw_okq (q : MethodName × Nat) : Prop := (q.1.cls ≠ "java/lang/invoke/MethodHandle" ∧ q.1.cls ≠ "java/lang/invoke/VarHandle") ∧ Cond.instantiable q.1.cls q.2 ∈ tables_1 ∧ Cond.privateMethod q.1 ∈ tables_1 ∧ Cond.instanceMethod q.1 ∈ tables_1
theorem lw_p0 : lw_okq (⟨"StripeVault", "repairStripe", "(I)I"⟩, 7) := ⟨⟨by decide +kernel, by decide +kernel⟩, List.mem_of_getElem? (i := 18) (by decide +kernel), List.mem_of_getElem? (i := 158) (by decide +kernel), List.mem_of_getElem? (i := 159) (by decide +kernel)⟩
theorem lw_p1 : lw_okq (⟨"StripeVault", "isGone", "(I)Z"⟩, 7) := ⟨⟨by decide +kernel, by decide +kernel⟩, List.mem_of_getElem? (i := 18) (by decide +kernel), List.mem_of_getElem? (i := 162) (by decide +kernel), List.mem_of_getElem? (i := 163) (by decide +kernel)⟩
theorem lw_p2 : lw_okq (⟨"StripeVault", "readStripe", "(I)V"⟩, 7) := ⟨⟨by decide +kernel, by decide +kernel⟩, List.mem_of_getElem? (i := 18) (by decide +kernel), List.mem_of_getElem? (i := 170) (by decide +kernel), List.mem_of_getElem? (i := 171) (by decide +kernel)⟩
theorem lw_p3 : lw_okq (⟨"StripeVault", "nextKept", "(II)I"⟩, 7) := ⟨⟨by decide +kernel, by decide +kernel⟩, List.mem_of_getElem? (i := 18) (by decide +kernel), List.mem_of_getElem? (i := 178) (by decide +kernel), List.mem_of_getElem? (i := 179) (by decide +kernel)⟩
theorem lw_p4 : lw_okq (⟨"StripeVault", "giveEquation", "(III)V"⟩, 7) := ⟨⟨by decide +kernel, by decide +kernel⟩, List.mem_of_getElem? (i := 18) (by decide +kernel), List.mem_of_getElem? (i := 182) (by decide +kernel), List.mem_of_getElem? (i := 183) (by decide +kernel)⟩
theorem lw_p5 : lw_okq (⟨"StripeVault$Coder", "multiplyLine", "(II)V"⟩, 6) := ⟨⟨by decide +kernel, by decide +kernel⟩, List.mem_of_getElem? (i := 35) (by decide +kernel), List.mem_of_getElem? (i := 201) (by decide +kernel), List.mem_of_getElem? (i := 202) (by decide +kernel)⟩
theorem lw_p6 : lw_okq (⟨"StripeVault$Coder", "addLine", "(III)V"⟩, 6) := ⟨⟨by decide +kernel, by decide +kernel⟩, List.mem_of_getElem? (i := 35) (by decide +kernel), List.mem_of_getElem? (i := 206) (by decide +kernel), List.mem_of_getElem? (i := 207) (by decide +kernel)⟩
theorem lw_p7 : lw_okq (⟨"StripeVault", "placeShard", "(II)Z"⟩, 7) := ⟨⟨by decide +kernel, by decide +kernel⟩, List.mem_of_getElem? (i := 18) (by decide +kernel), List.mem_of_getElem? (i := 210) (by decide +kernel), List.mem_of_getElem? (i := 211) (by decide +kernel)⟩
theorem lw_p8 : lw_okq (⟨"StripeVault", "roomiestDiskFor", "(I)I"⟩, 7) := ⟨⟨by decide +kernel, by decide +kernel⟩, List.mem_of_getElem? (i := 18) (by decide +kernel), List.mem_of_getElem? (i := 214) (by decide +kernel), List.mem_of_getElem? (i := 215) (by decide +kernel)⟩
theorem lw_p9 : lw_okq (⟨"java/lang/Throwable", "fillInStackTrace", "(I)Ljava/lang/Throwable;"⟩, 6) := ⟨⟨by decide +kernel, by decide +kernel⟩, List.mem_of_getElem? (i := 326) (by decide +kernel), List.mem_of_getElem? (i := 324) (by decide +kernel), List.mem_of_getElem? (i := 325) (by decide +kernel)⟩
theorem lw_p10 : lw_okq (⟨"StripeVault", "placeDraft", "(I)Z"⟩, 7) := ⟨⟨by decide +kernel, by decide +kernel⟩, List.mem_of_getElem? (i := 18) (by decide +kernel), List.mem_of_getElem? (i := 355) (by decide +kernel), List.mem_of_getElem? (i := 356) (by decide +kernel)⟩
theorem lw_p11 : lw_okq (⟨"StripeVault", "takeDataFromDraft", "(I)V"⟩, 7) := ⟨⟨by decide +kernel, by decide +kernel⟩, List.mem_of_getElem? (i := 18) (by decide +kernel), List.mem_of_getElem? (i := 359) (by decide +kernel), List.mem_of_getElem? (i := 360) (by decide +kernel)⟩
theorem lw_p12 : lw_okq (⟨"StripeVault", "releaseObject", "(I)I"⟩, 7) := ⟨⟨by decide +kernel, by decide +kernel⟩, List.mem_of_getElem? (i := 18) (by decide +kernel), List.mem_of_getElem? (i := 363) (by decide +kernel), List.mem_of_getElem? (i := 364) (by decide +kernel)⟩
theorem lw_p13 : lw_okq (⟨"StripeVault", "requireObject", "(I)V"⟩, 7) := ⟨⟨by decide +kernel, by decide +kernel⟩, List.mem_of_getElem? (i := 18) (by decide +kernel), List.mem_of_getElem? (i := 398) (by decide +kernel), List.mem_of_getElem? (i := 399) (by decide +kernel)⟩
theorem lw_p14 : lw_okq (⟨"StripeVault", "hasGoneStripe", "(I)Z"⟩, 7) := ⟨⟨by decide +kernel, by decide +kernel⟩, List.mem_of_getElem? (i := 18) (by decide +kernel), List.mem_of_getElem? (i := 424) (by decide +kernel), List.mem_of_getElem? (i := 425) (by decide +kernel)⟩
theorem lw_p15 : lw_okq (⟨"StripeVault", "copyDataToOutput", "(I)V"⟩, 7) := ⟨⟨by decide +kernel, by decide +kernel⟩, List.mem_of_getElem? (i := 18) (by decide +kernel), List.mem_of_getElem? (i := 428) (by decide +kernel), List.mem_of_getElem? (i := 429) (by decide +kernel)⟩
def lw_privs_1 : List (MethodName × Nat) := [(⟨"StripeVault", "repairStripe", "(I)I"⟩, 7), (⟨"StripeVault", "isGone", "(I)Z"⟩, 7), (⟨"StripeVault", "readStripe", "(I)V"⟩, 7), (⟨"StripeVault", "nextKept", "(II)I"⟩, 7), (⟨"StripeVault", "giveEquation", "(III)V"⟩, 7), (⟨"StripeVault$Coder", "multiplyLine", "(II)V"⟩, 6), (⟨"StripeVault$Coder", "addLine", "(III)V"⟩, 6), (⟨"StripeVault", "placeShard", "(II)Z"⟩, 7), (⟨"StripeVault", "roomiestDiskFor", "(I)I"⟩, 7), (⟨"java/lang/Throwable", "fillInStackTrace", "(I)Ljava/lang/Throwable;"⟩, 6), (⟨"StripeVault", "placeDraft", "(I)Z"⟩, 7), (⟨"StripeVault", "takeDataFromDraft", "(I)V"⟩, 7), (⟨"StripeVault", "releaseObject", "(I)I"⟩, 7), (⟨"StripeVault", "requireObject", "(I)V"⟩, 7), (⟨"StripeVault", "hasGoneStripe", "(I)Z"⟩, 7), (⟨"StripeVault", "copyDataToOutput", "(I)V"⟩, 7)]
theorem lw_r1 : ∀ q ∈ lw_privs_1, lw_okq q := List.forall_mem_cons.mpr ⟨lw_p0, List.forall_mem_cons.mpr ⟨lw_p1, List.forall_mem_cons.mpr ⟨lw_p2, List.forall_mem_cons.mpr ⟨lw_p3, List.forall_mem_cons.mpr ⟨lw_p4, List.forall_mem_cons.mpr ⟨lw_p5, List.forall_mem_cons.mpr ⟨lw_p6, List.forall_mem_cons.mpr ⟨lw_p7, List.forall_mem_cons.mpr ⟨lw_p8, List.forall_mem_cons.mpr ⟨lw_p9, List.forall_mem_cons.mpr ⟨lw_p10, List.forall_mem_cons.mpr ⟨lw_p11, List.forall_mem_cons.mpr ⟨lw_p12, List.forall_mem_cons.mpr ⟨lw_p13, List.forall_mem_cons.mpr ⟨lw_p14, List.forall_mem_cons.mpr ⟨lw_p15, fun _ h => absurd h List.not_mem_nil⟩⟩⟩⟩⟩⟩⟩⟩⟩⟩⟩⟩⟩⟩⟩⟩
theorem lw_p16 : lw_okq (⟨"StripeVault", "requireDisk", "(I)V"⟩, 7) := ⟨⟨by decide +kernel, by decide +kernel⟩, List.mem_of_getElem? (i := 18) (by decide +kernel), List.mem_of_getElem? (i := 462) (by decide +kernel), List.mem_of_getElem? (i := 463) (by decide +kernel)⟩
theorem lw_p17 : lw_okq (⟨"StripeVault", "hasWrongShard", "(I)Z"⟩, 7) := ⟨⟨by decide +kernel, by decide +kernel⟩, List.mem_of_getElem? (i := 18) (by decide +kernel), List.mem_of_getElem? (i := 496) (by decide +kernel), List.mem_of_getElem? (i := 497) (by decide +kernel)⟩
theorem lw_p18 : lw_okq (⟨"StripeVault", "isAsWorkedOut", "(II)Z"⟩, 7) := ⟨⟨by decide +kernel, by decide +kernel⟩, List.mem_of_getElem? (i := 18) (by decide +kernel), List.mem_of_getElem? (i := 500) (by decide +kernel), List.mem_of_getElem? (i := 501) (by decide +kernel)⟩
theorem lw_p19 : lw_okq (⟨"StripeVault", "requireStoredByte", "(III)V"⟩, 7) := ⟨⟨by decide +kernel, by decide +kernel⟩, List.mem_of_getElem? (i := 18) (by decide +kernel), List.mem_of_getElem? (i := 511) (by decide +kernel), List.mem_of_getElem? (i := 512) (by decide +kernel)⟩
theorem lw_p20 : lw_okq (⟨"StripeVaultModel", "shards", "()I"⟩, 16) := ⟨⟨by decide +kernel, by decide +kernel⟩, List.mem_of_getElem? (i := 561) (by decide +kernel), List.mem_of_getElem? (i := 567) (by decide +kernel), List.mem_of_getElem? (i := 568) (by decide +kernel)⟩
theorem lw_p21 : lw_okq (⟨"StripeVaultModel", "clear", "(I)I"⟩, 16) := ⟨⟨by decide +kernel, by decide +kernel⟩, List.mem_of_getElem? (i := 561) (by decide +kernel), List.mem_of_getElem? (i := 646) (by decide +kernel), List.mem_of_getElem? (i := 647) (by decide +kernel)⟩
theorem lw_p22 : lw_okq (⟨"StripeVaultModel", "stripesOf", "(I)I"⟩, 16) := ⟨⟨by decide +kernel, by decide +kernel⟩, List.mem_of_getElem? (i := 561) (by decide +kernel), List.mem_of_getElem? (i := 650) (by decide +kernel), List.mem_of_getElem? (i := 651) (by decide +kernel)⟩
theorem lw_p23 : lw_okq (⟨"StripeVaultModel", "lay", "(III)Z"⟩, 16) := ⟨⟨by decide +kernel, by decide +kernel⟩, List.mem_of_getElem? (i := 561) (by decide +kernel), List.mem_of_getElem? (i := 654) (by decide +kernel), List.mem_of_getElem? (i := 655) (by decide +kernel)⟩
theorem lw_p24 : lw_okq (⟨"StripeVaultModel", "slotFor", "(II)I"⟩, 16) := ⟨⟨by decide +kernel, by decide +kernel⟩, List.mem_of_getElem? (i := 561) (by decide +kernel), List.mem_of_getElem? (i := 658) (by decide +kernel), List.mem_of_getElem? (i := 659) (by decide +kernel)⟩
theorem lw_p25 : lw_okq (⟨"StripeVaultModel", "free", "(I)I"⟩, 16) := ⟨⟨by decide +kernel, by decide +kernel⟩, List.mem_of_getElem? (i := 561) (by decide +kernel), List.mem_of_getElem? (i := 662) (by decide +kernel), List.mem_of_getElem? (i := 663) (by decide +kernel)⟩
theorem lw_p26 : lw_okq (⟨"StripeVaultModel", "place", "(III)I"⟩, 16) := ⟨⟨by decide +kernel, by decide +kernel⟩, List.mem_of_getElem? (i := 561) (by decide +kernel), List.mem_of_getElem? (i := 666) (by decide +kernel), List.mem_of_getElem? (i := 667) (by decide +kernel)⟩
theorem lw_p27 : lw_okq (⟨"StripeVaultModel", "worked", "(II)I"⟩, 16) := ⟨⟨by decide +kernel, by decide +kernel⟩, List.mem_of_getElem? (i := 561) (by decide +kernel), List.mem_of_getElem? (i := 670) (by decide +kernel), List.mem_of_getElem? (i := 671) (by decide +kernel)⟩
theorem lw_p28 : lw_okq (⟨"StripeVaultModel", "factor", "(II)I"⟩, 16) := ⟨⟨by decide +kernel, by decide +kernel⟩, List.mem_of_getElem? (i := 561) (by decide +kernel), List.mem_of_getElem? (i := 674) (by decide +kernel), List.mem_of_getElem? (i := 675) (by decide +kernel)⟩
theorem lw_p29 : lw_okq (⟨"StripeVaultModel", "isThere", "(I)Z"⟩, 16) := ⟨⟨by decide +kernel, by decide +kernel⟩, List.mem_of_getElem? (i := 561) (by decide +kernel), List.mem_of_getElem? (i := 682) (by decide +kernel), List.mem_of_getElem? (i := 683) (by decide +kernel)⟩
theorem lw_p30 : lw_okq (⟨"StripeVaultModel", "lost", "(II)I"⟩, 16) := ⟨⟨by decide +kernel, by decide +kernel⟩, List.mem_of_getElem? (i := 561) (by decide +kernel), List.mem_of_getElem? (i := 690) (by decide +kernel), List.mem_of_getElem? (i := 691) (by decide +kernel)⟩
theorem lw_p31 : lw_okq (⟨"StripeVaultModel", "readStripe", "(II)V"⟩, 16) := ⟨⟨by decide +kernel, by decide +kernel⟩, List.mem_of_getElem? (i := 561) (by decide +kernel), List.mem_of_getElem? (i := 694) (by decide +kernel), List.mem_of_getElem? (i := 695) (by decide +kernel)⟩
def lw_privs_2 : List (MethodName × Nat) := [(⟨"StripeVault", "requireDisk", "(I)V"⟩, 7), (⟨"StripeVault", "hasWrongShard", "(I)Z"⟩, 7), (⟨"StripeVault", "isAsWorkedOut", "(II)Z"⟩, 7), (⟨"StripeVault", "requireStoredByte", "(III)V"⟩, 7), (⟨"StripeVaultModel", "shards", "()I"⟩, 16), (⟨"StripeVaultModel", "clear", "(I)I"⟩, 16), (⟨"StripeVaultModel", "stripesOf", "(I)I"⟩, 16), (⟨"StripeVaultModel", "lay", "(III)Z"⟩, 16), (⟨"StripeVaultModel", "slotFor", "(II)I"⟩, 16), (⟨"StripeVaultModel", "free", "(I)I"⟩, 16), (⟨"StripeVaultModel", "place", "(III)I"⟩, 16), (⟨"StripeVaultModel", "worked", "(II)I"⟩, 16), (⟨"StripeVaultModel", "factor", "(II)I"⟩, 16), (⟨"StripeVaultModel", "isThere", "(I)Z"⟩, 16), (⟨"StripeVaultModel", "lost", "(II)I"⟩, 16), (⟨"StripeVaultModel", "readStripe", "(II)V"⟩, 16)]
theorem lw_r2 : ∀ q ∈ lw_privs_2, lw_okq q := List.forall_mem_cons.mpr ⟨lw_p16, List.forall_mem_cons.mpr ⟨lw_p17, List.forall_mem_cons.mpr ⟨lw_p18, List.forall_mem_cons.mpr ⟨lw_p19, List.forall_mem_cons.mpr ⟨lw_p20, List.forall_mem_cons.mpr ⟨lw_p21, List.forall_mem_cons.mpr ⟨lw_p22, List.forall_mem_cons.mpr ⟨lw_p23, List.forall_mem_cons.mpr ⟨lw_p24, List.forall_mem_cons.mpr ⟨lw_p25, List.forall_mem_cons.mpr ⟨lw_p26, List.forall_mem_cons.mpr ⟨lw_p27, List.forall_mem_cons.mpr ⟨lw_p28, List.forall_mem_cons.mpr ⟨lw_p29, List.forall_mem_cons.mpr ⟨lw_p30, List.forall_mem_cons.mpr ⟨lw_p31, fun _ h => absurd h List.not_mem_nil⟩⟩⟩⟩⟩⟩⟩⟩⟩⟩⟩⟩⟩⟩⟩⟩
theorem lw_p32 : lw_okq (⟨"StripeVaultModel", "writeRows", "(III)V"⟩, 16) := ⟨⟨by decide +kernel, by decide +kernel⟩, List.mem_of_getElem? (i := 561) (by decide +kernel), List.mem_of_getElem? (i := 698) (by decide +kernel), List.mem_of_getElem? (i := 699) (by decide +kernel)⟩
theorem lw_p33 : lw_okq (⟨"StripeVaultModel", "solve", "()V"⟩, 16) := ⟨⟨by decide +kernel, by decide +kernel⟩, List.mem_of_getElem? (i := 561) (by decide +kernel), List.mem_of_getElem? (i := 702) (by decide +kernel), List.mem_of_getElem? (i := 703) (by decide +kernel)⟩
theorem lw_p34 : lw_okq (⟨"StripeVaultModel", "refusal", "(III)I"⟩, 16) := ⟨⟨by decide +kernel, by decide +kernel⟩, List.mem_of_getElem? (i := 561) (by decide +kernel), List.mem_of_getElem? (i := 733) (by decide +kernel), List.mem_of_getElem? (i := 734) (by decide +kernel)⟩
def lw_privs_3 : List (MethodName × Nat) := [(⟨"StripeVaultModel", "writeRows", "(III)V"⟩, 16), (⟨"StripeVaultModel", "solve", "()V"⟩, 16), (⟨"StripeVaultModel", "refusal", "(III)I"⟩, 16)]
theorem lw_r3 : ∀ q ∈ lw_privs_3, lw_okq q := List.forall_mem_cons.mpr ⟨lw_p32, List.forall_mem_cons.mpr ⟨lw_p33, List.forall_mem_cons.mpr ⟨lw_p34, fun _ h => absurd h List.not_mem_nil⟩⟩⟩
def lw_privs : List (MethodName × Nat) := lw_privs_1 ++ (lw_privs_2 ++ (lw_privs_3))
def lw_tbl : List Cond := k2_sels lw_privs ++ tables_1
theorem lw_privs_ok : ∀ q ∈ lw_privs, lw_okq q := by
  show ∀ q ∈ lw_privs_1 ++ (lw_privs_2 ++ (lw_privs_3)), lw_okq q
  exact List.forall_mem_append.mpr ⟨lw_r1, List.forall_mem_append.mpr ⟨lw_r2, lw_r3⟩⟩
end
section
/-! Own names, printed by wip/whole/gen/names.py: classes, fields, methods, decode rows -/
def NV : String := "StripeVault"
def NC : String := "StripeVault$Coder"
def ND : String := "StripeVault$Disks"
def NG : String := "StripeVault$Catalogue"
def NR : String := "StripeVaultModel"
def NL : String := "StripeVaultLaw"
def NA : String := "java/util/Arrays"
def TV : u_T := fun k => match k with
  | 0 => ("StripeVault", "coder", "LStripeVault$Coder;", true)
  | 1 => ("StripeVault", "disks", "LStripeVault$Disks;", true)
  | 2 => ("StripeVault", "catalogue", "LStripeVault$Catalogue;", true)
  | 3 => ("StripeVault", "draft", "[I", true)
  | 4 => ("StripeVault", "draftLength", "I", false)
  | 5 => ("StripeVault", "output", "[I", true)
  | _ => ("StripeVault", "outputLength", "I", false)
def tyV : Nat → FieldType := fun k => match k with
  | 0 => .object "StripeVault$Coder"
  | 1 => .object "StripeVault$Disks"
  | 2 => .object "StripeVault$Catalogue"
  | 3 => .array .int
  | 4 => .int
  | 5 => .array .int
  | _ => .int
theorem nmV : ∀ a, a < 7 → ∀ b, b < 7 → a ≠ b → (TV a).2.1 ≠ (TV b).2.1 := by decide +kernel
theorem tokV : ∀ k, k < 7 → parseFieldDescriptor (TV k).2.2.1 = some (tyV k) := by decide +kernel
def TC : u_T := fun k => match k with
  | 0 => ("StripeVault$Coder", "dataShards", "I", true)
  | 1 => ("StripeVault$Coder", "shards", "I", true)
  | 2 => ("StripeVault$Coder", "dataBytes", "I", true)
  | 3 => ("StripeVault$Coder", "data", "[I", true)
  | 4 => ("StripeVault$Coder", "factors", "[I", true)
  | _ => ("StripeVault$Coder", "equations", "[I", true)
def tyC : Nat → FieldType := fun k => match k with
  | 0 => .int
  | 1 => .int
  | 2 => .int
  | 3 => .array .int
  | 4 => .array .int
  | _ => .array .int
theorem nmC : ∀ a, a < 6 → ∀ b, b < 6 → a ≠ b → (TC a).2.1 ≠ (TC b).2.1 := by decide +kernel
theorem tokC : ∀ k, k < 6 → parseFieldDescriptor (TC k).2.2.1 = some (tyC k) := by decide +kernel
def TD : u_T := fun k => match k with
  | 0 => ("StripeVault$Disks", "alive", "[Z", true)
  | 1 => ("StripeVault$Disks", "freeSlots", "[I", true)
  | 2 => ("StripeVault$Disks", "taken", "[Z", true)
  | _ => ("StripeVault$Disks", "bytes", "[I", true)
def tyD : Nat → FieldType := fun k => match k with
  | 0 => .array .boolean
  | 1 => .array .int
  | 2 => .array .boolean
  | _ => .array .int
theorem nmD : ∀ a, a < 4 → ∀ b, b < 4 → a ≠ b → (TD a).2.1 ≠ (TD b).2.1 := by decide +kernel
theorem tokD : ∀ k, k < 4 → parseFieldDescriptor (TD k).2.2.1 = some (tyD k) := by decide +kernel
def TG : u_T := fun k => match k with
  | 0 => ("StripeVault$Catalogue", "shards", "I", true)
  | 1 => ("StripeVault$Catalogue", "stripeBytes", "I", true)
  | 2 => ("StripeVault$Catalogue", "lengths", "[I", true)
  | _ => ("StripeVault$Catalogue", "places", "[I", true)
def tyG : Nat → FieldType := fun k => match k with
  | 0 => .int
  | 1 => .int
  | 2 => .array .int
  | _ => .array .int
theorem nmG : ∀ a, a < 4 → ∀ b, b < 4 → a ≠ b → (TG a).2.1 ≠ (TG b).2.1 := by decide +kernel
theorem tokG : ∀ k, k < 4 → parseFieldDescriptor (TG k).2.2.1 = some (tyG k) := by decide +kernel
def TR : u_T := fun k => match k with
  | 0 => ("StripeVaultModel", "data", "I", true)
  | 1 => ("StripeVaultModel", "more", "I", true)
  | 2 => ("StripeVaultModel", "code", "I", false)
  | 3 => ("StripeVaultModel", "draft", "[I", true)
  | 4 => ("StripeVaultModel", "size", "I", false)
  | 5 => ("StripeVaultModel", "alive", "[Z", true)
  | 6 => ("StripeVaultModel", "used", "[Z", true)
  | 7 => ("StripeVaultModel", "bytes", "[I", true)
  | 8 => ("StripeVaultModel", "lengths", "[I", true)
  | 9 => ("StripeVaultModel", "places", "[I", true)
  | 10 => ("StripeVaultModel", "factors", "[I", true)
  | 11 => ("StripeVaultModel", "outSize", "I", false)
  | 12 => ("StripeVaultModel", "out", "[I", true)
  | 13 => ("StripeVaultModel", "read", "[I", true)
  | 14 => ("StripeVaultModel", "stripe", "[I", true)
  | _ => ("StripeVaultModel", "rows", "[I", true)
def tyR : Nat → FieldType := fun k => match k with
  | 0 => .int
  | 1 => .int
  | 2 => .int
  | 3 => .array .int
  | 4 => .int
  | 5 => .array .boolean
  | 6 => .array .boolean
  | 7 => .array .int
  | 8 => .array .int
  | 9 => .array .int
  | 10 => .array .int
  | 11 => .int
  | 12 => .array .int
  | 13 => .array .int
  | 14 => .array .int
  | _ => .array .int
theorem nmR : ∀ a, a < 16 → ∀ b, b < 16 → a ≠ b → (TR a).2.1 ≠ (TR b).2.1 := by decide +kernel
theorem tokR : ∀ k, k < 16 → parseFieldDescriptor (TR k).2.2.1 = some (tyR k) := by decide +kernel
abbrev vwCl : List vw_C := [(NV, TV, 7), (NC, TC, 6), (ND, TD, 4), (NG, TG, 4), (NR, TR, 16)]
abbrev c_V_init : ByteArray := prog_1_method_1_code
def y_V_init : MethodName := ⟨"StripeVault", "<init>", "(II)V"⟩
abbrev c_V_put : ByteArray := prog_1_method_2_code
def y_V_put : MethodName := ⟨"StripeVault", "put", "(IJ)Z"⟩
abbrev c_V_scrap : ByteArray := prog_1_method_3_code
def y_V_scrap : MethodName := ⟨"StripeVault", "scrap", "()V"⟩
abbrev c_V_store : ByteArray := prog_1_method_4_code
def y_V_store : MethodName := ⟨"StripeVault", "store", "(I)I"⟩
abbrev c_V_drop : ByteArray := prog_1_method_5_code
def y_V_drop : MethodName := ⟨"StripeVault", "drop", "(I)I"⟩
abbrev c_V_get : ByteArray := prog_1_method_6_code
def y_V_get : MethodName := ⟨"StripeVault", "get", "(I)I"⟩
abbrev c_V_at : ByteArray := prog_1_method_7_code
def y_V_at : MethodName := ⟨"StripeVault", "at", "(I)I"⟩
abbrev c_V_fail : ByteArray := prog_1_method_8_code
def y_V_fail : MethodName := ⟨"StripeVault", "fail", "(I)I"⟩
abbrev c_V_renew : ByteArray := prog_1_method_9_code
def y_V_renew : MethodName := ⟨"StripeVault", "renew", "(I)I"⟩
abbrev c_V_repair : ByteArray := prog_1_method_10_code
def y_V_repair : MethodName := ⟨"StripeVault", "repair", "()I"⟩
abbrev c_V_check : ByteArray := prog_1_method_11_code
def y_V_check : MethodName := ⟨"StripeVault", "check", "(I)I"⟩
abbrev c_V_harm : ByteArray := prog_1_method_12_code
def y_V_harm : MethodName := ⟨"StripeVault", "harm", "(IIII)I"⟩
abbrev c_V_stored : ByteArray := prog_1_method_13_code
def y_V_stored : MethodName := ⟨"StripeVault", "stored", "(III)I"⟩
abbrev c_V_where : ByteArray := prog_1_method_14_code
def y_V_where : MethodName := ⟨"StripeVault", "where", "(III)I"⟩
abbrev c_V_length : ByteArray := prog_1_method_15_code
def y_V_length : MethodName := ⟨"StripeVault", "length", "(I)I"⟩
abbrev c_V_room : ByteArray := prog_1_method_16_code
def y_V_room : MethodName := ⟨"StripeVault", "room", "(I)I"⟩
abbrev c_V_product : ByteArray := prog_1_method_17_code
def y_V_product : MethodName := ⟨"StripeVault", "product", "(II)I"⟩
abbrev c_V_nearest : ByteArray := prog_1_method_18_code
def y_V_nearest : MethodName := ⟨"StripeVault", "nearest", "(II)I"⟩
abbrev c_V_isByte : ByteArray := prog_1_method_19_code
def y_V_isByte : MethodName := ⟨"StripeVault", "isByte", "(I)Z"⟩
abbrev c_V_isObjectNumber : ByteArray := prog_1_method_20_code
def y_V_isObjectNumber : MethodName := ⟨"StripeVault", "isObjectNumber", "(I)Z"⟩
abbrev c_V_isDiskNumber : ByteArray := prog_1_method_21_code
def y_V_isDiskNumber : MethodName := ⟨"StripeVault", "isDiskNumber", "(I)Z"⟩
abbrev c_V_placeAt : ByteArray := prog_1_method_22_code
def y_V_placeAt : MethodName := ⟨"StripeVault", "placeAt", "(II)I"⟩
abbrev c_V_times : ByteArray := prog_1_method_23_code
def y_V_times : MethodName := ⟨"StripeVault", "times", "(II)I"⟩
abbrev c_V_inverse : ByteArray := prog_1_method_24_code
def y_V_inverse : MethodName := ⟨"StripeVault", "inverse", "(I)I"⟩
abbrev c_V_requireObject : ByteArray := prog_1_method_25_code
def y_V_requireObject : MethodName := ⟨"StripeVault", "requireObject", "(I)V"⟩
abbrev c_V_requireDisk : ByteArray := prog_1_method_26_code
def y_V_requireDisk : MethodName := ⟨"StripeVault", "requireDisk", "(I)V"⟩
abbrev c_V_requireStoredByte : ByteArray := prog_1_method_27_code
def y_V_requireStoredByte : MethodName := ⟨"StripeVault", "requireStoredByte", "(III)V"⟩
abbrev c_V_placeDraft : ByteArray := prog_1_method_28_code
def y_V_placeDraft : MethodName := ⟨"StripeVault", "placeDraft", "(I)Z"⟩
abbrev c_V_takeDataFromDraft : ByteArray := prog_1_method_29_code
def y_V_takeDataFromDraft : MethodName := ⟨"StripeVault", "takeDataFromDraft", "(I)V"⟩
abbrev c_V_copyDataToOutput : ByteArray := prog_1_method_30_code
def y_V_copyDataToOutput : MethodName := ⟨"StripeVault", "copyDataToOutput", "(I)V"⟩
abbrev c_V_placeShard : ByteArray := prog_1_method_31_code
def y_V_placeShard : MethodName := ⟨"StripeVault", "placeShard", "(II)Z"⟩
abbrev c_V_roomiestDiskFor : ByteArray := prog_1_method_32_code
def y_V_roomiestDiskFor : MethodName := ⟨"StripeVault", "roomiestDiskFor", "(I)I"⟩
abbrev c_V_releaseObject : ByteArray := prog_1_method_33_code
def y_V_releaseObject : MethodName := ⟨"StripeVault", "releaseObject", "(I)I"⟩
abbrev c_V_isGone : ByteArray := prog_1_method_34_code
def y_V_isGone : MethodName := ⟨"StripeVault", "isGone", "(I)Z"⟩
abbrev c_V_hasGoneStripe : ByteArray := prog_1_method_35_code
def y_V_hasGoneStripe : MethodName := ⟨"StripeVault", "hasGoneStripe", "(I)Z"⟩
abbrev c_V_readStripe : ByteArray := prog_1_method_36_code
def y_V_readStripe : MethodName := ⟨"StripeVault", "readStripe", "(I)V"⟩
abbrev c_V_nextKept : ByteArray := prog_1_method_37_code
def y_V_nextKept : MethodName := ⟨"StripeVault", "nextKept", "(II)I"⟩
abbrev c_V_giveEquation : ByteArray := prog_1_method_38_code
def y_V_giveEquation : MethodName := ⟨"StripeVault", "giveEquation", "(III)V"⟩
abbrev c_V_repairStripe : ByteArray := prog_1_method_39_code
def y_V_repairStripe : MethodName := ⟨"StripeVault", "repairStripe", "(I)I"⟩
abbrev c_V_hasWrongShard : ByteArray := prog_1_method_40_code
def y_V_hasWrongShard : MethodName := ⟨"StripeVault", "hasWrongShard", "(I)Z"⟩
abbrev c_V_isAsWorkedOut : ByteArray := prog_1_method_41_code
def y_V_isAsWorkedOut : MethodName := ⟨"StripeVault", "isAsWorkedOut", "(II)Z"⟩
abbrev c_R_init : ByteArray := prog_6_method_1_code
def y_R_init : MethodName := ⟨"StripeVaultModel", "<init>", "(II)V"⟩
abbrev c_R_thrown : ByteArray := prog_6_method_2_code
def y_R_thrown : MethodName := ⟨"StripeVaultModel", "thrown", "()I"⟩
abbrev c_R_put : ByteArray := prog_6_method_3_code
def y_R_put : MethodName := ⟨"StripeVaultModel", "put", "(IJ)Z"⟩
abbrev c_R_scrap : ByteArray := prog_6_method_4_code
def y_R_scrap : MethodName := ⟨"StripeVaultModel", "scrap", "()V"⟩
abbrev c_R_times : ByteArray := prog_6_method_5_code
def y_R_times : MethodName := ⟨"StripeVaultModel", "times", "(II)I"⟩
abbrev c_R_inverse : ByteArray := prog_6_method_6_code
def y_R_inverse : MethodName := ⟨"StripeVaultModel", "inverse", "(I)I"⟩
abbrev c_R_factor : ByteArray := prog_6_method_7_code
def y_R_factor : MethodName := ⟨"StripeVaultModel", "factor", "(II)I"⟩
abbrev c_R_shards : ByteArray := prog_6_method_8_code
def y_R_shards : MethodName := ⟨"StripeVaultModel", "shards", "()I"⟩
abbrev c_R_stripesOf : ByteArray := prog_6_method_9_code
def y_R_stripesOf : MethodName := ⟨"StripeVaultModel", "stripesOf", "(I)I"⟩
abbrev c_R_place : ByteArray := prog_6_method_10_code
def y_R_place : MethodName := ⟨"StripeVaultModel", "place", "(III)I"⟩
abbrev c_R_lost : ByteArray := prog_6_method_11_code
def y_R_lost : MethodName := ⟨"StripeVaultModel", "lost", "(II)I"⟩
abbrev c_R_worked : ByteArray := prog_6_method_12_code
def y_R_worked : MethodName := ⟨"StripeVaultModel", "worked", "(II)I"⟩
abbrev c_R_writeRows : ByteArray := prog_6_method_13_code
def y_R_writeRows : MethodName := ⟨"StripeVaultModel", "writeRows", "(III)V"⟩
abbrev c_R_solve : ByteArray := prog_6_method_14_code
def y_R_solve : MethodName := ⟨"StripeVaultModel", "solve", "()V"⟩
abbrev c_R_readStripe : ByteArray := prog_6_method_15_code
def y_R_readStripe : MethodName := ⟨"StripeVaultModel", "readStripe", "(II)V"⟩
abbrev c_R_free : ByteArray := prog_6_method_16_code
def y_R_free : MethodName := ⟨"StripeVaultModel", "free", "(I)I"⟩
abbrev c_R_slotFor : ByteArray := prog_6_method_17_code
def y_R_slotFor : MethodName := ⟨"StripeVaultModel", "slotFor", "(II)I"⟩
abbrev c_R_lay : ByteArray := prog_6_method_18_code
def y_R_lay : MethodName := ⟨"StripeVaultModel", "lay", "(III)Z"⟩
abbrev c_R_clear : ByteArray := prog_6_method_19_code
def y_R_clear : MethodName := ⟨"StripeVaultModel", "clear", "(I)I"⟩
abbrev c_R_isObject : ByteArray := prog_6_method_20_code
def y_R_isObject : MethodName := ⟨"StripeVaultModel", "isObject", "(I)Z"⟩
abbrev c_R_store : ByteArray := prog_6_method_21_code
def y_R_store : MethodName := ⟨"StripeVaultModel", "store", "(I)I"⟩
abbrev c_R_isThere : ByteArray := prog_6_method_22_code
def y_R_isThere : MethodName := ⟨"StripeVaultModel", "isThere", "(I)Z"⟩
abbrev c_R_drop : ByteArray := prog_6_method_23_code
def y_R_drop : MethodName := ⟨"StripeVaultModel", "drop", "(I)I"⟩
abbrev c_R_get : ByteArray := prog_6_method_24_code
def y_R_get : MethodName := ⟨"StripeVaultModel", "get", "(I)I"⟩
abbrev c_R_at : ByteArray := prog_6_method_25_code
def y_R_at : MethodName := ⟨"StripeVaultModel", "at", "(I)I"⟩
abbrev c_R_isDisk : ByteArray := prog_6_method_26_code
def y_R_isDisk : MethodName := ⟨"StripeVaultModel", "isDisk", "(I)Z"⟩
abbrev c_R_fail : ByteArray := prog_6_method_27_code
def y_R_fail : MethodName := ⟨"StripeVaultModel", "fail", "(I)I"⟩
abbrev c_R_renew : ByteArray := prog_6_method_28_code
def y_R_renew : MethodName := ⟨"StripeVaultModel", "renew", "(I)I"⟩
abbrev c_R_repair : ByteArray := prog_6_method_29_code
def y_R_repair : MethodName := ⟨"StripeVaultModel", "repair", "()I"⟩
abbrev c_R_check : ByteArray := prog_6_method_30_code
def y_R_check : MethodName := ⟨"StripeVaultModel", "check", "(I)I"⟩
abbrev c_R_refusal : ByteArray := prog_6_method_31_code
def y_R_refusal : MethodName := ⟨"StripeVaultModel", "refusal", "(III)I"⟩
abbrev c_R_harm : ByteArray := prog_6_method_32_code
def y_R_harm : MethodName := ⟨"StripeVaultModel", "harm", "(IIII)I"⟩
abbrev c_R_stored : ByteArray := prog_6_method_33_code
def y_R_stored : MethodName := ⟨"StripeVaultModel", "stored", "(III)I"⟩
abbrev c_R_where : ByteArray := prog_6_method_34_code
def y_R_where : MethodName := ⟨"StripeVaultModel", "where", "(III)I"⟩
abbrev c_R_length : ByteArray := prog_6_method_35_code
def y_R_length : MethodName := ⟨"StripeVaultModel", "length", "(I)I"⟩
abbrev c_R_room : ByteArray := prog_6_method_36_code
def y_R_room : MethodName := ⟨"StripeVaultModel", "room", "(I)I"⟩
abbrev c_R_product : ByteArray := prog_6_method_37_code
def y_R_product : MethodName := ⟨"StripeVaultModel", "product", "(II)I"⟩
abbrev c_G_init : ByteArray := prog_2_method_1_code
def y_G_init : MethodName := ⟨"StripeVault$Catalogue", "<init>", "(II)V"⟩
abbrev c_G_holds : ByteArray := prog_2_method_2_code
def y_G_holds : MethodName := ⟨"StripeVault$Catalogue", "holds", "(I)Z"⟩
abbrev c_G_lengthOf : ByteArray := prog_2_method_3_code
def y_G_lengthOf : MethodName := ⟨"StripeVault$Catalogue", "lengthOf", "(I)I"⟩
abbrev c_G_stripesOf : ByteArray := prog_2_method_4_code
def y_G_stripesOf : MethodName := ⟨"StripeVault$Catalogue", "stripesOf", "(I)I"⟩
abbrev c_G_enter : ByteArray := prog_2_method_5_code
def y_G_enter : MethodName := ⟨"StripeVault$Catalogue", "enter", "(II)V"⟩
abbrev c_G_strike : ByteArray := prog_2_method_6_code
def y_G_strike : MethodName := ⟨"StripeVault$Catalogue", "strike", "(I)V"⟩
abbrev c_G_rowOf : ByteArray := prog_2_method_7_code
def y_G_rowOf : MethodName := ⟨"StripeVault$Catalogue", "rowOf", "(II)I"⟩
abbrev c_G_placeOf : ByteArray := prog_2_method_8_code
def y_G_placeOf : MethodName := ⟨"StripeVault$Catalogue", "placeOf", "(II)I"⟩
abbrev c_G_setPlace : ByteArray := prog_2_method_9_code
def y_G_setPlace : MethodName := ⟨"StripeVault$Catalogue", "setPlace", "(III)V"⟩
abbrev c_G_countLost : ByteArray := prog_2_method_10_code
def y_G_countLost : MethodName := ⟨"StripeVault$Catalogue", "countLost", "(I)I"⟩
abbrev c_G_isOnDisk : ByteArray := prog_2_method_11_code
def y_G_isOnDisk : MethodName := ⟨"StripeVault$Catalogue", "isOnDisk", "(II)Z"⟩
abbrev c_G_loseDisk : ByteArray := prog_2_method_12_code
def y_G_loseDisk : MethodName := ⟨"StripeVault$Catalogue", "loseDisk", "(I)V"⟩
abbrev c_G_isPlaceOnDisk : ByteArray := prog_2_method_13_code
def y_G_isPlaceOnDisk : MethodName := ⟨"StripeVault$Catalogue", "isPlaceOnDisk", "(II)Z"⟩
abbrev c_C_init : ByteArray := prog_3_method_1_code
def y_C_init : MethodName := ⟨"StripeVault$Coder", "<init>", "(II)V"⟩
abbrev c_C_factor : ByteArray := prog_3_method_2_code
def y_C_factor : MethodName := ⟨"StripeVault$Coder", "factor", "(III)I"⟩
abbrev c_C_shardByte : ByteArray := prog_3_method_3_code
def y_C_shardByte : MethodName := ⟨"StripeVault$Coder", "shardByte", "(II)I"⟩
abbrev c_C_setEquation : ByteArray := prog_3_method_4_code
def y_C_setEquation : MethodName := ⟨"StripeVault$Coder", "setEquation", "(II)V"⟩
abbrev c_C_solve : ByteArray := prog_3_method_5_code
def y_C_solve : MethodName := ⟨"StripeVault$Coder", "solve", "()V"⟩
abbrev c_C_multiplyLine : ByteArray := prog_3_method_6_code
def y_C_multiplyLine : MethodName := ⟨"StripeVault$Coder", "multiplyLine", "(II)V"⟩
abbrev c_C_addLine : ByteArray := prog_3_method_7_code
def y_C_addLine : MethodName := ⟨"StripeVault$Coder", "addLine", "(III)V"⟩
abbrev c_D_init : ByteArray := prog_4_method_1_code
def y_D_init : MethodName := ⟨"StripeVault$Disks", "<init>", "()V"⟩
abbrev c_D_isAlive : ByteArray := prog_4_method_2_code
def y_D_isAlive : MethodName := ⟨"StripeVault$Disks", "isAlive", "(I)Z"⟩
abbrev c_D_countAlive : ByteArray := prog_4_method_3_code
def y_D_countAlive : MethodName := ⟨"StripeVault$Disks", "countAlive", "()I"⟩
abbrev c_D_freeSlotsOf : ByteArray := prog_4_method_4_code
def y_D_freeSlotsOf : MethodName := ⟨"StripeVault$Disks", "freeSlotsOf", "(I)I"⟩
abbrev c_D_stop : ByteArray := prog_4_method_5_code
def y_D_stop : MethodName := ⟨"StripeVault$Disks", "stop", "(I)V"⟩
abbrev c_D_start : ByteArray := prog_4_method_6_code
def y_D_start : MethodName := ⟨"StripeVault$Disks", "start", "(I)V"⟩
abbrev c_D_isTaken : ByteArray := prog_4_method_7_code
def y_D_isTaken : MethodName := ⟨"StripeVault$Disks", "isTaken", "(I)Z"⟩
abbrev c_D_takeSlot : ByteArray := prog_4_method_8_code
def y_D_takeSlot : MethodName := ⟨"StripeVault$Disks", "takeSlot", "(I)I"⟩
abbrev c_D_releaseSlot : ByteArray := prog_4_method_9_code
def y_D_releaseSlot : MethodName := ⟨"StripeVault$Disks", "releaseSlot", "(I)V"⟩
abbrev c_D_byteAt : ByteArray := prog_4_method_10_code
def y_D_byteAt : MethodName := ⟨"StripeVault$Disks", "byteAt", "(II)I"⟩
abbrev c_D_setByte : ByteArray := prog_4_method_11_code
def y_D_setByte : MethodName := ⟨"StripeVault$Disks", "setByte", "(III)V"⟩
abbrev c_L_cell : ByteArray := method_2_code
def y_L_cell : MethodName := ⟨"StripeVaultLaw", "cell", "([II)I"⟩
abbrev c_L_store : ByteArray := method_3_code
def y_L_store : MethodName := ⟨"StripeVaultLaw", "store", "(LStripeVault;I[J)I"⟩
abbrev c_L_drop : ByteArray := method_4_code
def y_L_drop : MethodName := ⟨"StripeVaultLaw", "drop", "(LStripeVault;I[J)I"⟩
abbrev c_L_get : ByteArray := method_5_code
def y_L_get : MethodName := ⟨"StripeVaultLaw", "get", "(LStripeVault;I[J)I"⟩
abbrev c_L_at : ByteArray := method_6_code
def y_L_at : MethodName := ⟨"StripeVaultLaw", "at", "(LStripeVault;I[J)I"⟩
abbrev c_L_fail : ByteArray := method_7_code
def y_L_fail : MethodName := ⟨"StripeVaultLaw", "fail", "(LStripeVault;I[J)I"⟩
abbrev c_L_renew : ByteArray := method_8_code
def y_L_renew : MethodName := ⟨"StripeVaultLaw", "renew", "(LStripeVault;I[J)I"⟩
abbrev c_L_check : ByteArray := method_9_code
def y_L_check : MethodName := ⟨"StripeVaultLaw", "check", "(LStripeVault;I[J)I"⟩
abbrev c_L_harm : ByteArray := method_10_code
def y_L_harm : MethodName := ⟨"StripeVaultLaw", "harm", "(LStripeVault;IIII[J)I"⟩
abbrev c_L_stored : ByteArray := method_11_code
def y_L_stored : MethodName := ⟨"StripeVaultLaw", "stored", "(LStripeVault;III[J)I"⟩
abbrev c_L_where : ByteArray := method_12_code
def y_L_where : MethodName := ⟨"StripeVaultLaw", "where", "(LStripeVault;III[J)I"⟩
abbrev c_L_product : ByteArray := method_13_code
def y_L_product : MethodName := ⟨"StripeVaultLaw", "product", "(LStripeVault;II[J)I"⟩
abbrev c_A_fill : ByteArray := prog_16_method_103_code
def y_A_fill : MethodName := ⟨"java/util/Arrays", "fill", "([II)V"⟩
end
section
/-! decode rows -/
theorem d_V_init_0 : decode c_V_init 0 = .ok (.aload_n 0, 1) := by decide +kernel
theorem d_V_init_1 : decode c_V_init 1 = .ok (.invokespecial 1, 3) := by decide +kernel
theorem d_V_init_4 : decode c_V_init 4 = .ok (.iload_n 1, 1) := by decide +kernel
theorem d_V_init_5 : decode c_V_init 5 = .ok (.iconst (4), 1) := by decide +kernel
theorem d_V_init_6 : decode c_V_init 6 = .ok (.invokestatic 9, 3) := by decide +kernel
theorem d_V_init_9 : decode c_V_init 9 = .ok (.istore_n 3, 1) := by decide +kernel
theorem d_V_init_10 : decode c_V_init 10 = .ok (.iload_n 3, 1) := by decide +kernel
theorem d_V_init_11 : decode c_V_init 11 = .ok (.iload_n 2, 1) := by decide +kernel
theorem d_V_init_12 : decode c_V_init 12 = .ok (.iconst (3), 1) := by decide +kernel
theorem d_V_init_13 : decode c_V_init 13 = .ok (.invokestatic 9, 3) := by decide +kernel
theorem d_V_init_16 : decode c_V_init 16 = .ok (.iadd, 1) := by decide +kernel
theorem d_V_init_17 : decode c_V_init 17 = .ok (.istore 4, 2) := by decide +kernel
theorem d_V_init_19 : decode c_V_init 19 = .ok (.aload_n 0, 1) := by decide +kernel
theorem d_V_init_20 : decode c_V_init 20 = .ok (.new 13, 3) := by decide +kernel
theorem d_V_init_23 : decode c_V_init 23 = .ok (.dup, 1) := by decide +kernel
theorem d_V_init_24 : decode c_V_init 24 = .ok (.iload_n 3, 1) := by decide +kernel
theorem d_V_init_25 : decode c_V_init 25 = .ok (.iload 4, 2) := by decide +kernel
theorem d_V_init_27 : decode c_V_init 27 = .ok (.invokespecial 15, 3) := by decide +kernel
theorem d_V_init_30 : decode c_V_init 30 = .ok (.putfield 18, 3) := by decide +kernel
theorem d_V_init_33 : decode c_V_init 33 = .ok (.aload_n 0, 1) := by decide +kernel
theorem d_V_init_34 : decode c_V_init 34 = .ok (.new 22, 3) := by decide +kernel
theorem d_V_init_37 : decode c_V_init 37 = .ok (.dup, 1) := by decide +kernel
theorem d_V_init_38 : decode c_V_init 38 = .ok (.invokespecial 24, 3) := by decide +kernel
theorem d_V_init_41 : decode c_V_init 41 = .ok (.putfield 25, 3) := by decide +kernel
theorem d_V_init_44 : decode c_V_init 44 = .ok (.aload_n 0, 1) := by decide +kernel
theorem d_V_init_45 : decode c_V_init 45 = .ok (.new 29, 3) := by decide +kernel
theorem d_V_init_48 : decode c_V_init 48 = .ok (.dup, 1) := by decide +kernel
theorem d_V_init_49 : decode c_V_init 49 = .ok (.iload_n 3, 1) := by decide +kernel
theorem d_V_init_50 : decode c_V_init 50 = .ok (.iload 4, 2) := by decide +kernel
theorem d_V_init_52 : decode c_V_init 52 = .ok (.invokespecial 31, 3) := by decide +kernel
theorem d_V_init_55 : decode c_V_init 55 = .ok (.putfield 32, 3) := by decide +kernel
theorem d_V_init_58 : decode c_V_init 58 = .ok (.aload_n 0, 1) := by decide +kernel
theorem d_V_init_59 : decode c_V_init 59 = .ok (.bipush (32), 2) := by decide +kernel
theorem d_V_init_61 : decode c_V_init 61 = .ok (.newarray .int, 2) := by decide +kernel
theorem d_V_init_63 : decode c_V_init 63 = .ok (.putfield 36, 3) := by decide +kernel
theorem d_V_init_66 : decode c_V_init 66 = .ok (.aload_n 0, 1) := by decide +kernel
theorem d_V_init_67 : decode c_V_init 67 = .ok (.iconst (0), 1) := by decide +kernel
theorem d_V_init_68 : decode c_V_init 68 = .ok (.putfield 40, 3) := by decide +kernel
theorem d_V_init_71 : decode c_V_init 71 = .ok (.aload_n 0, 1) := by decide +kernel
theorem d_V_init_72 : decode c_V_init 72 = .ok (.bipush (32), 2) := by decide +kernel
theorem d_V_init_74 : decode c_V_init 74 = .ok (.newarray .int, 2) := by decide +kernel
theorem d_V_init_76 : decode c_V_init 76 = .ok (.putfield 44, 3) := by decide +kernel
theorem d_V_init_79 : decode c_V_init 79 = .ok (.aload_n 0, 1) := by decide +kernel
theorem d_V_init_80 : decode c_V_init 80 = .ok (.iconst (0), 1) := by decide +kernel
theorem d_V_init_81 : decode c_V_init 81 = .ok (.putfield 47, 3) := by decide +kernel
theorem d_V_init_84 : decode c_V_init 84 = .ok (.return_, 1) := by decide +kernel
theorem d_V_put_0 : decode c_V_put 0 = .ok (.iload_n 1, 1) := by decide +kernel
theorem d_V_put_1 : decode c_V_put 1 = .ok (.iconst (1), 1) := by decide +kernel
theorem d_V_put_2 : decode c_V_put 2 = .ok (.if_icmp .lt (20), 3) := by decide +kernel
theorem d_V_put_5 : decode c_V_put 5 = .ok (.iload_n 1, 1) := by decide +kernel
theorem d_V_put_6 : decode c_V_put 6 = .ok (.bipush (8), 2) := by decide +kernel
theorem d_V_put_8 : decode c_V_put 8 = .ok (.if_icmp .gt (14), 3) := by decide +kernel
theorem d_V_put_11 : decode c_V_put 11 = .ok (.aload_n 0, 1) := by decide +kernel
theorem d_V_put_12 : decode c_V_put 12 = .ok (.getfield 40, 3) := by decide +kernel
theorem d_V_put_15 : decode c_V_put 15 = .ok (.iload_n 1, 1) := by decide +kernel
theorem d_V_put_16 : decode c_V_put 16 = .ok (.iadd, 1) := by decide +kernel
theorem d_V_put_17 : decode c_V_put 17 = .ok (.bipush (32), 2) := by decide +kernel
theorem d_V_put_19 : decode c_V_put 19 = .ok (.if_icmp .le (5), 3) := by decide +kernel
theorem d_V_put_22 : decode c_V_put 22 = .ok (.iconst (0), 1) := by decide +kernel
theorem d_V_put_23 : decode c_V_put 23 = .ok (.ireturn, 1) := by decide +kernel
theorem d_V_put_24 : decode c_V_put 24 = .ok (.iconst (0), 1) := by decide +kernel
theorem d_V_put_25 : decode c_V_put 25 = .ok (.istore 4, 2) := by decide +kernel
theorem d_V_put_27 : decode c_V_put 27 = .ok (.iload 4, 2) := by decide +kernel
theorem d_V_put_29 : decode c_V_put 29 = .ok (.iload_n 1, 1) := by decide +kernel
theorem d_V_put_30 : decode c_V_put 30 = .ok (.if_icmp .ge (37), 3) := by decide +kernel
theorem d_V_put_33 : decode c_V_put 33 = .ok (.aload_n 0, 1) := by decide +kernel
theorem d_V_put_34 : decode c_V_put 34 = .ok (.getfield 36, 3) := by decide +kernel
theorem d_V_put_37 : decode c_V_put 37 = .ok (.aload_n 0, 1) := by decide +kernel
theorem d_V_put_38 : decode c_V_put 38 = .ok (.getfield 40, 3) := by decide +kernel
theorem d_V_put_41 : decode c_V_put 41 = .ok (.iload 4, 2) := by decide +kernel
theorem d_V_put_43 : decode c_V_put 43 = .ok (.iadd, 1) := by decide +kernel
theorem d_V_put_44 : decode c_V_put 44 = .ok (.lload_n 2, 1) := by decide +kernel
theorem d_V_put_45 : decode c_V_put 45 = .ok (.bipush (8), 2) := by decide +kernel
theorem d_V_put_47 : decode c_V_put 47 = .ok (.iload_n 1, 1) := by decide +kernel
theorem d_V_put_48 : decode c_V_put 48 = .ok (.iconst (1), 1) := by decide +kernel
theorem d_V_put_49 : decode c_V_put 49 = .ok (.isub, 1) := by decide +kernel
theorem d_V_put_50 : decode c_V_put 50 = .ok (.iload 4, 2) := by decide +kernel
theorem d_V_put_52 : decode c_V_put 52 = .ok (.isub, 1) := by decide +kernel
theorem d_V_put_53 : decode c_V_put 53 = .ok (.imul, 1) := by decide +kernel
theorem d_V_put_54 : decode c_V_put 54 = .ok (.lushr, 1) := by decide +kernel
theorem d_V_put_55 : decode c_V_put 55 = .ok (.l2i, 1) := by decide +kernel
theorem d_V_put_56 : decode c_V_put 56 = .ok (.sipush (255), 3) := by decide +kernel
theorem d_V_put_59 : decode c_V_put 59 = .ok (.iand, 1) := by decide +kernel
theorem d_V_put_60 : decode c_V_put 60 = .ok (.iastore, 1) := by decide +kernel
theorem d_V_put_61 : decode c_V_put 61 = .ok (.iinc 4 (1), 3) := by decide +kernel
theorem d_V_put_64 : decode c_V_put 64 = .ok (.goto (-37), 3) := by decide +kernel
theorem d_V_put_67 : decode c_V_put 67 = .ok (.aload_n 0, 1) := by decide +kernel
theorem d_V_put_68 : decode c_V_put 68 = .ok (.dup, 1) := by decide +kernel
theorem d_V_put_69 : decode c_V_put 69 = .ok (.getfield 40, 3) := by decide +kernel
theorem d_V_put_72 : decode c_V_put 72 = .ok (.iload_n 1, 1) := by decide +kernel
theorem d_V_put_73 : decode c_V_put 73 = .ok (.iadd, 1) := by decide +kernel
theorem d_V_put_74 : decode c_V_put 74 = .ok (.putfield 40, 3) := by decide +kernel
theorem d_V_put_77 : decode c_V_put 77 = .ok (.iconst (1), 1) := by decide +kernel
theorem d_V_put_78 : decode c_V_put 78 = .ok (.ireturn, 1) := by decide +kernel
theorem d_V_scrap_0 : decode c_V_scrap 0 = .ok (.aload_n 0, 1) := by decide +kernel
theorem d_V_scrap_1 : decode c_V_scrap 1 = .ok (.iconst (0), 1) := by decide +kernel
theorem d_V_scrap_2 : decode c_V_scrap 2 = .ok (.putfield 40, 3) := by decide +kernel
theorem d_V_scrap_5 : decode c_V_scrap 5 = .ok (.return_, 1) := by decide +kernel
theorem d_V_store_0 : decode c_V_store 0 = .ok (.iload_n 1, 1) := by decide +kernel
theorem d_V_store_1 : decode c_V_store 1 = .ok (.invokestatic 50, 3) := by decide +kernel
theorem d_V_store_4 : decode c_V_store 4 = .ok (.ifCond .eq (21), 3) := by decide +kernel
theorem d_V_store_7 : decode c_V_store 7 = .ok (.aload_n 0, 1) := by decide +kernel
theorem d_V_store_8 : decode c_V_store 8 = .ok (.getfield 32, 3) := by decide +kernel
theorem d_V_store_11 : decode c_V_store 11 = .ok (.iload_n 1, 1) := by decide +kernel
theorem d_V_store_12 : decode c_V_store 12 = .ok (.invokevirtual 54, 3) := by decide +kernel
theorem d_V_store_15 : decode c_V_store 15 = .ok (.ifCond .ne (10), 3) := by decide +kernel
theorem d_V_store_18 : decode c_V_store 18 = .ok (.aload_n 0, 1) := by decide +kernel
theorem d_V_store_19 : decode c_V_store 19 = .ok (.getfield 40, 3) := by decide +kernel
theorem d_V_store_22 : decode c_V_store 22 = .ok (.ifCond .ne (11), 3) := by decide +kernel
theorem d_V_store_25 : decode c_V_store 25 = .ok (.new 57, 3) := by decide +kernel
theorem d_V_store_28 : decode c_V_store 28 = .ok (.dup, 1) := by decide +kernel
theorem d_V_store_29 : decode c_V_store 29 = .ok (.invokespecial 59, 3) := by decide +kernel
theorem d_V_store_32 : decode c_V_store 32 = .ok (.athrow, 1) := by decide +kernel
theorem d_V_store_33 : decode c_V_store 33 = .ok (.aload_n 0, 1) := by decide +kernel
theorem d_V_store_34 : decode c_V_store 34 = .ok (.getfield 32, 3) := by decide +kernel
theorem d_V_store_37 : decode c_V_store 37 = .ok (.iload_n 1, 1) := by decide +kernel
theorem d_V_store_38 : decode c_V_store 38 = .ok (.aload_n 0, 1) := by decide +kernel
theorem d_V_store_39 : decode c_V_store 39 = .ok (.getfield 40, 3) := by decide +kernel
theorem d_V_store_42 : decode c_V_store 42 = .ok (.invokevirtual 60, 3) := by decide +kernel
theorem d_V_store_45 : decode c_V_store 45 = .ok (.aload_n 0, 1) := by decide +kernel
theorem d_V_store_46 : decode c_V_store 46 = .ok (.iload_n 1, 1) := by decide +kernel
theorem d_V_store_47 : decode c_V_store 47 = .ok (.invokevirtual 63, 3) := by decide +kernel
theorem d_V_store_50 : decode c_V_store 50 = .ok (.ifCond .ne (17), 3) := by decide +kernel
theorem d_V_store_53 : decode c_V_store 53 = .ok (.aload_n 0, 1) := by decide +kernel
theorem d_V_store_54 : decode c_V_store 54 = .ok (.iload_n 1, 1) := by decide +kernel
theorem d_V_store_55 : decode c_V_store 55 = .ok (.invokevirtual 66, 3) := by decide +kernel
theorem d_V_store_58 : decode c_V_store 58 = .ok (.pop, 1) := by decide +kernel
theorem d_V_store_59 : decode c_V_store 59 = .ok (.new 70, 3) := by decide +kernel
theorem d_V_store_62 : decode c_V_store 62 = .ok (.dup, 1) := by decide +kernel
theorem d_V_store_63 : decode c_V_store 63 = .ok (.invokespecial 72, 3) := by decide +kernel
theorem d_V_store_66 : decode c_V_store 66 = .ok (.athrow, 1) := by decide +kernel
theorem d_V_store_67 : decode c_V_store 67 = .ok (.aload_n 0, 1) := by decide +kernel
theorem d_V_store_68 : decode c_V_store 68 = .ok (.iconst (0), 1) := by decide +kernel
theorem d_V_store_69 : decode c_V_store 69 = .ok (.putfield 40, 3) := by decide +kernel
theorem d_V_store_72 : decode c_V_store 72 = .ok (.aload_n 0, 1) := by decide +kernel
theorem d_V_store_73 : decode c_V_store 73 = .ok (.getfield 32, 3) := by decide +kernel
theorem d_V_store_76 : decode c_V_store 76 = .ok (.iload_n 1, 1) := by decide +kernel
theorem d_V_store_77 : decode c_V_store 77 = .ok (.invokevirtual 73, 3) := by decide +kernel
theorem d_V_store_80 : decode c_V_store 80 = .ok (.ireturn, 1) := by decide +kernel
theorem d_V_drop_0 : decode c_V_drop 0 = .ok (.aload_n 0, 1) := by decide +kernel
theorem d_V_drop_1 : decode c_V_drop 1 = .ok (.iload_n 1, 1) := by decide +kernel
theorem d_V_drop_2 : decode c_V_drop 2 = .ok (.invokevirtual 76, 3) := by decide +kernel
theorem d_V_drop_5 : decode c_V_drop 5 = .ok (.aload_n 0, 1) := by decide +kernel
theorem d_V_drop_6 : decode c_V_drop 6 = .ok (.iload_n 1, 1) := by decide +kernel
theorem d_V_drop_7 : decode c_V_drop 7 = .ok (.invokevirtual 66, 3) := by decide +kernel
theorem d_V_drop_10 : decode c_V_drop 10 = .ok (.ireturn, 1) := by decide +kernel
theorem d_V_get_0 : decode c_V_get 0 = .ok (.aload_n 0, 1) := by decide +kernel
theorem d_V_get_1 : decode c_V_get 1 = .ok (.iload_n 1, 1) := by decide +kernel
theorem d_V_get_2 : decode c_V_get 2 = .ok (.invokevirtual 76, 3) := by decide +kernel
theorem d_V_get_5 : decode c_V_get 5 = .ok (.aload_n 0, 1) := by decide +kernel
theorem d_V_get_6 : decode c_V_get 6 = .ok (.iload_n 1, 1) := by decide +kernel
theorem d_V_get_7 : decode c_V_get 7 = .ok (.invokevirtual 80, 3) := by decide +kernel
theorem d_V_get_10 : decode c_V_get 10 = .ok (.ifCond .eq (11), 3) := by decide +kernel
theorem d_V_get_13 : decode c_V_get 13 = .ok (.new 70, 3) := by decide +kernel
theorem d_V_get_16 : decode c_V_get 16 = .ok (.dup, 1) := by decide +kernel
theorem d_V_get_17 : decode c_V_get 17 = .ok (.invokespecial 72, 3) := by decide +kernel
theorem d_V_get_20 : decode c_V_get 20 = .ok (.athrow, 1) := by decide +kernel
theorem d_V_get_21 : decode c_V_get 21 = .ok (.iconst (0), 1) := by decide +kernel
theorem d_V_get_22 : decode c_V_get 22 = .ok (.istore_n 2, 1) := by decide +kernel
theorem d_V_get_23 : decode c_V_get 23 = .ok (.iload_n 2, 1) := by decide +kernel
theorem d_V_get_24 : decode c_V_get 24 = .ok (.aload_n 0, 1) := by decide +kernel
theorem d_V_get_25 : decode c_V_get 25 = .ok (.getfield 32, 3) := by decide +kernel
theorem d_V_get_28 : decode c_V_get 28 = .ok (.iload_n 1, 1) := by decide +kernel
theorem d_V_get_29 : decode c_V_get 29 = .ok (.invokevirtual 73, 3) := by decide +kernel
theorem d_V_get_32 : decode c_V_get 32 = .ok (.if_icmp .ge (27), 3) := by decide +kernel
theorem d_V_get_35 : decode c_V_get 35 = .ok (.aload_n 0, 1) := by decide +kernel
theorem d_V_get_36 : decode c_V_get 36 = .ok (.aload_n 0, 1) := by decide +kernel
theorem d_V_get_37 : decode c_V_get 37 = .ok (.getfield 32, 3) := by decide +kernel
theorem d_V_get_40 : decode c_V_get 40 = .ok (.iload_n 1, 1) := by decide +kernel
theorem d_V_get_41 : decode c_V_get 41 = .ok (.iload_n 2, 1) := by decide +kernel
theorem d_V_get_42 : decode c_V_get 42 = .ok (.invokevirtual 83, 3) := by decide +kernel
theorem d_V_get_45 : decode c_V_get 45 = .ok (.invokevirtual 86, 3) := by decide +kernel
theorem d_V_get_48 : decode c_V_get 48 = .ok (.aload_n 0, 1) := by decide +kernel
theorem d_V_get_49 : decode c_V_get 49 = .ok (.iload_n 2, 1) := by decide +kernel
theorem d_V_get_50 : decode c_V_get 50 = .ok (.invokevirtual 89, 3) := by decide +kernel
theorem d_V_get_53 : decode c_V_get 53 = .ok (.iinc 2 (1), 3) := by decide +kernel
theorem d_V_get_56 : decode c_V_get 56 = .ok (.goto (-33), 3) := by decide +kernel
theorem d_V_get_59 : decode c_V_get 59 = .ok (.aload_n 0, 1) := by decide +kernel
theorem d_V_get_60 : decode c_V_get 60 = .ok (.aload_n 0, 1) := by decide +kernel
theorem d_V_get_61 : decode c_V_get 61 = .ok (.getfield 32, 3) := by decide +kernel
theorem d_V_get_64 : decode c_V_get 64 = .ok (.iload_n 1, 1) := by decide +kernel
theorem d_V_get_65 : decode c_V_get 65 = .ok (.invokevirtual 92, 3) := by decide +kernel
theorem d_V_get_68 : decode c_V_get 68 = .ok (.putfield 47, 3) := by decide +kernel
theorem d_V_get_71 : decode c_V_get 71 = .ok (.aload_n 0, 1) := by decide +kernel
theorem d_V_get_72 : decode c_V_get 72 = .ok (.getfield 47, 3) := by decide +kernel
theorem d_V_get_75 : decode c_V_get 75 = .ok (.ireturn, 1) := by decide +kernel
theorem d_V_at_0 : decode c_V_at 0 = .ok (.iload_n 1, 1) := by decide +kernel
theorem d_V_at_1 : decode c_V_at 1 = .ok (.ifCond .lt (11), 3) := by decide +kernel
theorem d_V_at_4 : decode c_V_at 4 = .ok (.iload_n 1, 1) := by decide +kernel
theorem d_V_at_5 : decode c_V_at 5 = .ok (.aload_n 0, 1) := by decide +kernel
theorem d_V_at_6 : decode c_V_at 6 = .ok (.getfield 47, 3) := by decide +kernel
theorem d_V_at_9 : decode c_V_at 9 = .ok (.if_icmp .lt (11), 3) := by decide +kernel
theorem d_V_at_12 : decode c_V_at 12 = .ok (.new 95, 3) := by decide +kernel
theorem d_V_at_15 : decode c_V_at 15 = .ok (.dup, 1) := by decide +kernel
theorem d_V_at_16 : decode c_V_at 16 = .ok (.invokespecial 97, 3) := by decide +kernel
theorem d_V_at_19 : decode c_V_at 19 = .ok (.athrow, 1) := by decide +kernel
theorem d_V_at_20 : decode c_V_at 20 = .ok (.aload_n 0, 1) := by decide +kernel
theorem d_V_at_21 : decode c_V_at 21 = .ok (.getfield 44, 3) := by decide +kernel
theorem d_V_at_24 : decode c_V_at 24 = .ok (.iload_n 1, 1) := by decide +kernel
theorem d_V_at_25 : decode c_V_at 25 = .ok (.iaload, 1) := by decide +kernel
theorem d_V_at_26 : decode c_V_at 26 = .ok (.ireturn, 1) := by decide +kernel
theorem d_V_fail_0 : decode c_V_fail 0 = .ok (.aload_n 0, 1) := by decide +kernel
theorem d_V_fail_1 : decode c_V_fail 1 = .ok (.iload_n 1, 1) := by decide +kernel
theorem d_V_fail_2 : decode c_V_fail 2 = .ok (.invokevirtual 98, 3) := by decide +kernel
theorem d_V_fail_5 : decode c_V_fail 5 = .ok (.aload_n 0, 1) := by decide +kernel
theorem d_V_fail_6 : decode c_V_fail 6 = .ok (.getfield 25, 3) := by decide +kernel
theorem d_V_fail_9 : decode c_V_fail 9 = .ok (.iload_n 1, 1) := by decide +kernel
theorem d_V_fail_10 : decode c_V_fail 10 = .ok (.invokevirtual 101, 3) := by decide +kernel
theorem d_V_fail_13 : decode c_V_fail 13 = .ok (.ifCond .ne (11), 3) := by decide +kernel
theorem d_V_fail_16 : decode c_V_fail 16 = .ok (.new 70, 3) := by decide +kernel
theorem d_V_fail_19 : decode c_V_fail 19 = .ok (.dup, 1) := by decide +kernel
theorem d_V_fail_20 : decode c_V_fail 20 = .ok (.invokespecial 72, 3) := by decide +kernel
theorem d_V_fail_23 : decode c_V_fail 23 = .ok (.athrow, 1) := by decide +kernel
theorem d_V_fail_24 : decode c_V_fail 24 = .ok (.bipush (10), 2) := by decide +kernel
theorem d_V_fail_26 : decode c_V_fail 26 = .ok (.aload_n 0, 1) := by decide +kernel
theorem d_V_fail_27 : decode c_V_fail 27 = .ok (.getfield 25, 3) := by decide +kernel
theorem d_V_fail_30 : decode c_V_fail 30 = .ok (.iload_n 1, 1) := by decide +kernel
theorem d_V_fail_31 : decode c_V_fail 31 = .ok (.invokevirtual 104, 3) := by decide +kernel
theorem d_V_fail_34 : decode c_V_fail 34 = .ok (.isub, 1) := by decide +kernel
theorem d_V_fail_35 : decode c_V_fail 35 = .ok (.istore_n 2, 1) := by decide +kernel
theorem d_V_fail_36 : decode c_V_fail 36 = .ok (.aload_n 0, 1) := by decide +kernel
theorem d_V_fail_37 : decode c_V_fail 37 = .ok (.getfield 25, 3) := by decide +kernel
theorem d_V_fail_40 : decode c_V_fail 40 = .ok (.iload_n 1, 1) := by decide +kernel
theorem d_V_fail_41 : decode c_V_fail 41 = .ok (.invokevirtual 107, 3) := by decide +kernel
theorem d_V_fail_44 : decode c_V_fail 44 = .ok (.aload_n 0, 1) := by decide +kernel
theorem d_V_fail_45 : decode c_V_fail 45 = .ok (.getfield 32, 3) := by decide +kernel
theorem d_V_fail_48 : decode c_V_fail 48 = .ok (.iload_n 1, 1) := by decide +kernel
theorem d_V_fail_49 : decode c_V_fail 49 = .ok (.invokevirtual 110, 3) := by decide +kernel
theorem d_V_fail_52 : decode c_V_fail 52 = .ok (.iload_n 2, 1) := by decide +kernel
theorem d_V_fail_53 : decode c_V_fail 53 = .ok (.ireturn, 1) := by decide +kernel
theorem d_V_renew_0 : decode c_V_renew 0 = .ok (.aload_n 0, 1) := by decide +kernel
theorem d_V_renew_1 : decode c_V_renew 1 = .ok (.iload_n 1, 1) := by decide +kernel
theorem d_V_renew_2 : decode c_V_renew 2 = .ok (.invokevirtual 98, 3) := by decide +kernel
theorem d_V_renew_5 : decode c_V_renew 5 = .ok (.aload_n 0, 1) := by decide +kernel
theorem d_V_renew_6 : decode c_V_renew 6 = .ok (.getfield 25, 3) := by decide +kernel
theorem d_V_renew_9 : decode c_V_renew 9 = .ok (.iload_n 1, 1) := by decide +kernel
theorem d_V_renew_10 : decode c_V_renew 10 = .ok (.invokevirtual 101, 3) := by decide +kernel
theorem d_V_renew_13 : decode c_V_renew 13 = .ok (.ifCond .eq (11), 3) := by decide +kernel
theorem d_V_renew_16 : decode c_V_renew 16 = .ok (.new 70, 3) := by decide +kernel
theorem d_V_renew_19 : decode c_V_renew 19 = .ok (.dup, 1) := by decide +kernel
theorem d_V_renew_20 : decode c_V_renew 20 = .ok (.invokespecial 72, 3) := by decide +kernel
theorem d_V_renew_23 : decode c_V_renew 23 = .ok (.athrow, 1) := by decide +kernel
theorem d_V_renew_24 : decode c_V_renew 24 = .ok (.aload_n 0, 1) := by decide +kernel
theorem d_V_renew_25 : decode c_V_renew 25 = .ok (.getfield 25, 3) := by decide +kernel
theorem d_V_renew_28 : decode c_V_renew 28 = .ok (.iload_n 1, 1) := by decide +kernel
theorem d_V_renew_29 : decode c_V_renew 29 = .ok (.invokevirtual 113, 3) := by decide +kernel
theorem d_V_renew_32 : decode c_V_renew 32 = .ok (.aload_n 0, 1) := by decide +kernel
theorem d_V_renew_33 : decode c_V_renew 33 = .ok (.getfield 25, 3) := by decide +kernel
theorem d_V_renew_36 : decode c_V_renew 36 = .ok (.invokevirtual 116, 3) := by decide +kernel
theorem d_V_renew_39 : decode c_V_renew 39 = .ok (.ireturn, 1) := by decide +kernel
theorem d_V_repair_0 : decode c_V_repair 0 = .ok (.iconst (0), 1) := by decide +kernel
theorem d_V_repair_1 : decode c_V_repair 1 = .ok (.istore_n 1, 1) := by decide +kernel
theorem d_V_repair_2 : decode c_V_repair 2 = .ok (.iconst (0), 1) := by decide +kernel
theorem d_V_repair_3 : decode c_V_repair 3 = .ok (.istore_n 2, 1) := by decide +kernel
theorem d_V_repair_4 : decode c_V_repair 4 = .ok (.iload_n 2, 1) := by decide +kernel
theorem d_V_repair_5 : decode c_V_repair 5 = .ok (.bipush (6), 2) := by decide +kernel
theorem d_V_repair_7 : decode c_V_repair 7 = .ok (.if_icmp .ge (45), 3) := by decide +kernel
theorem d_V_repair_10 : decode c_V_repair 10 = .ok (.iconst (0), 1) := by decide +kernel
theorem d_V_repair_11 : decode c_V_repair 11 = .ok (.istore_n 3, 1) := by decide +kernel
theorem d_V_repair_12 : decode c_V_repair 12 = .ok (.iload_n 3, 1) := by decide +kernel
theorem d_V_repair_13 : decode c_V_repair 13 = .ok (.aload_n 0, 1) := by decide +kernel
theorem d_V_repair_14 : decode c_V_repair 14 = .ok (.getfield 32, 3) := by decide +kernel
theorem d_V_repair_17 : decode c_V_repair 17 = .ok (.iload_n 2, 1) := by decide +kernel
theorem d_V_repair_18 : decode c_V_repair 18 = .ok (.invokevirtual 73, 3) := by decide +kernel
theorem d_V_repair_21 : decode c_V_repair 21 = .ok (.if_icmp .ge (25), 3) := by decide +kernel
theorem d_V_repair_24 : decode c_V_repair 24 = .ok (.iload_n 1, 1) := by decide +kernel
theorem d_V_repair_25 : decode c_V_repair 25 = .ok (.aload_n 0, 1) := by decide +kernel
theorem d_V_repair_26 : decode c_V_repair 26 = .ok (.aload_n 0, 1) := by decide +kernel
theorem d_V_repair_27 : decode c_V_repair 27 = .ok (.getfield 32, 3) := by decide +kernel
theorem d_V_repair_30 : decode c_V_repair 30 = .ok (.iload_n 2, 1) := by decide +kernel
theorem d_V_repair_31 : decode c_V_repair 31 = .ok (.iload_n 3, 1) := by decide +kernel
theorem d_V_repair_32 : decode c_V_repair 32 = .ok (.invokevirtual 83, 3) := by decide +kernel
theorem d_V_repair_35 : decode c_V_repair 35 = .ok (.invokevirtual 120, 3) := by decide +kernel
theorem d_V_repair_38 : decode c_V_repair 38 = .ok (.iadd, 1) := by decide +kernel
theorem d_V_repair_39 : decode c_V_repair 39 = .ok (.istore_n 1, 1) := by decide +kernel
theorem d_V_repair_40 : decode c_V_repair 40 = .ok (.iinc 3 (1), 3) := by decide +kernel
theorem d_V_repair_43 : decode c_V_repair 43 = .ok (.goto (-31), 3) := by decide +kernel
theorem d_V_repair_46 : decode c_V_repair 46 = .ok (.iinc 2 (1), 3) := by decide +kernel
theorem d_V_repair_49 : decode c_V_repair 49 = .ok (.goto (-45), 3) := by decide +kernel
theorem d_V_repair_52 : decode c_V_repair 52 = .ok (.iload_n 1, 1) := by decide +kernel
theorem d_V_repair_53 : decode c_V_repair 53 = .ok (.ireturn, 1) := by decide +kernel
theorem d_V_check_0 : decode c_V_check 0 = .ok (.aload_n 0, 1) := by decide +kernel
theorem d_V_check_1 : decode c_V_check 1 = .ok (.iload_n 1, 1) := by decide +kernel
theorem d_V_check_2 : decode c_V_check 2 = .ok (.invokevirtual 76, 3) := by decide +kernel
theorem d_V_check_5 : decode c_V_check 5 = .ok (.iconst (0), 1) := by decide +kernel
theorem d_V_check_6 : decode c_V_check 6 = .ok (.istore_n 2, 1) := by decide +kernel
theorem d_V_check_7 : decode c_V_check 7 = .ok (.iconst (0), 1) := by decide +kernel
theorem d_V_check_8 : decode c_V_check 8 = .ok (.istore_n 3, 1) := by decide +kernel
theorem d_V_check_9 : decode c_V_check 9 = .ok (.iload_n 3, 1) := by decide +kernel
theorem d_V_check_10 : decode c_V_check 10 = .ok (.aload_n 0, 1) := by decide +kernel
theorem d_V_check_11 : decode c_V_check 11 = .ok (.getfield 32, 3) := by decide +kernel
theorem d_V_check_14 : decode c_V_check 14 = .ok (.iload_n 1, 1) := by decide +kernel
theorem d_V_check_15 : decode c_V_check 15 = .ok (.invokevirtual 73, 3) := by decide +kernel
theorem d_V_check_18 : decode c_V_check 18 = .ok (.if_icmp .ge (41), 3) := by decide +kernel
theorem d_V_check_21 : decode c_V_check 21 = .ok (.aload_n 0, 1) := by decide +kernel
theorem d_V_check_22 : decode c_V_check 22 = .ok (.getfield 32, 3) := by decide +kernel
theorem d_V_check_25 : decode c_V_check 25 = .ok (.iload_n 1, 1) := by decide +kernel
theorem d_V_check_26 : decode c_V_check 26 = .ok (.iload_n 3, 1) := by decide +kernel
theorem d_V_check_27 : decode c_V_check 27 = .ok (.invokevirtual 83, 3) := by decide +kernel
theorem d_V_check_30 : decode c_V_check 30 = .ok (.istore 4, 2) := by decide +kernel
theorem d_V_check_32 : decode c_V_check 32 = .ok (.aload_n 0, 1) := by decide +kernel
theorem d_V_check_33 : decode c_V_check 33 = .ok (.iload 4, 2) := by decide +kernel
theorem d_V_check_35 : decode c_V_check 35 = .ok (.invokevirtual 123, 3) := by decide +kernel
theorem d_V_check_38 : decode c_V_check 38 = .ok (.ifCond .ne (15), 3) := by decide +kernel
theorem d_V_check_41 : decode c_V_check 41 = .ok (.aload_n 0, 1) := by decide +kernel
theorem d_V_check_42 : decode c_V_check 42 = .ok (.iload 4, 2) := by decide +kernel
theorem d_V_check_44 : decode c_V_check 44 = .ok (.invokevirtual 126, 3) := by decide +kernel
theorem d_V_check_47 : decode c_V_check 47 = .ok (.ifCond .eq (6), 3) := by decide +kernel
theorem d_V_check_50 : decode c_V_check 50 = .ok (.iinc 2 (1), 3) := by decide +kernel
theorem d_V_check_53 : decode c_V_check 53 = .ok (.iinc 3 (1), 3) := by decide +kernel
theorem d_V_check_56 : decode c_V_check 56 = .ok (.goto (-47), 3) := by decide +kernel
theorem d_V_check_59 : decode c_V_check 59 = .ok (.iload_n 2, 1) := by decide +kernel
theorem d_V_check_60 : decode c_V_check 60 = .ok (.ireturn, 1) := by decide +kernel
theorem d_V_harm_0 : decode c_V_harm 0 = .ok (.aload_n 0, 1) := by decide +kernel
theorem d_V_harm_1 : decode c_V_harm 1 = .ok (.iload_n 1, 1) := by decide +kernel
theorem d_V_harm_2 : decode c_V_harm 2 = .ok (.iload_n 2, 1) := by decide +kernel
theorem d_V_harm_3 : decode c_V_harm 3 = .ok (.iload_n 3, 1) := by decide +kernel
theorem d_V_harm_4 : decode c_V_harm 4 = .ok (.invokevirtual 129, 3) := by decide +kernel
theorem d_V_harm_7 : decode c_V_harm 7 = .ok (.iload_n 1, 1) := by decide +kernel
theorem d_V_harm_8 : decode c_V_harm 8 = .ok (.iload_n 2, 1) := by decide +kernel
theorem d_V_harm_9 : decode c_V_harm 9 = .ok (.invokestatic 133, 3) := by decide +kernel
theorem d_V_harm_12 : decode c_V_harm 12 = .ok (.istore 5, 2) := by decide +kernel
theorem d_V_harm_14 : decode c_V_harm 14 = .ok (.aload_n 0, 1) := by decide +kernel
theorem d_V_harm_15 : decode c_V_harm 15 = .ok (.getfield 25, 3) := by decide +kernel
theorem d_V_harm_18 : decode c_V_harm 18 = .ok (.iload 5, 2) := by decide +kernel
theorem d_V_harm_20 : decode c_V_harm 20 = .ok (.iload_n 3, 1) := by decide +kernel
theorem d_V_harm_21 : decode c_V_harm 21 = .ok (.invokevirtual 136, 3) := by decide +kernel
theorem d_V_harm_24 : decode c_V_harm 24 = .ok (.iload 4, 2) := by decide +kernel
theorem d_V_harm_26 : decode c_V_harm 26 = .ok (.sipush (255), 3) := by decide +kernel
theorem d_V_harm_29 : decode c_V_harm 29 = .ok (.iand, 1) := by decide +kernel
theorem d_V_harm_30 : decode c_V_harm 30 = .ok (.ixor, 1) := by decide +kernel
theorem d_V_harm_31 : decode c_V_harm 31 = .ok (.istore 6, 2) := by decide +kernel
theorem d_V_harm_33 : decode c_V_harm 33 = .ok (.aload_n 0, 1) := by decide +kernel
theorem d_V_harm_34 : decode c_V_harm 34 = .ok (.getfield 25, 3) := by decide +kernel
theorem d_V_harm_37 : decode c_V_harm 37 = .ok (.iload 5, 2) := by decide +kernel
theorem d_V_harm_39 : decode c_V_harm 39 = .ok (.iload_n 3, 1) := by decide +kernel
theorem d_V_harm_40 : decode c_V_harm 40 = .ok (.iload 6, 2) := by decide +kernel
theorem d_V_harm_42 : decode c_V_harm 42 = .ok (.invokevirtual 139, 3) := by decide +kernel
theorem d_V_harm_45 : decode c_V_harm 45 = .ok (.iload 6, 2) := by decide +kernel
theorem d_V_harm_47 : decode c_V_harm 47 = .ok (.ireturn, 1) := by decide +kernel
theorem d_V_stored_0 : decode c_V_stored 0 = .ok (.aload_n 0, 1) := by decide +kernel
theorem d_V_stored_1 : decode c_V_stored 1 = .ok (.iload_n 1, 1) := by decide +kernel
theorem d_V_stored_2 : decode c_V_stored 2 = .ok (.iload_n 2, 1) := by decide +kernel
theorem d_V_stored_3 : decode c_V_stored 3 = .ok (.iload_n 3, 1) := by decide +kernel
theorem d_V_stored_4 : decode c_V_stored 4 = .ok (.invokevirtual 129, 3) := by decide +kernel
theorem d_V_stored_7 : decode c_V_stored 7 = .ok (.aload_n 0, 1) := by decide +kernel
theorem d_V_stored_8 : decode c_V_stored 8 = .ok (.getfield 25, 3) := by decide +kernel
theorem d_V_stored_11 : decode c_V_stored 11 = .ok (.iload_n 1, 1) := by decide +kernel
theorem d_V_stored_12 : decode c_V_stored 12 = .ok (.iload_n 2, 1) := by decide +kernel
theorem d_V_stored_13 : decode c_V_stored 13 = .ok (.invokestatic 133, 3) := by decide +kernel
theorem d_V_stored_16 : decode c_V_stored 16 = .ok (.iload_n 3, 1) := by decide +kernel
theorem d_V_stored_17 : decode c_V_stored 17 = .ok (.invokevirtual 136, 3) := by decide +kernel
theorem d_V_stored_20 : decode c_V_stored 20 = .ok (.ireturn, 1) := by decide +kernel
theorem d_V_where_0 : decode c_V_where 0 = .ok (.aload_n 0, 1) := by decide +kernel
theorem d_V_where_1 : decode c_V_where 1 = .ok (.iload_n 1, 1) := by decide +kernel
theorem d_V_where_2 : decode c_V_where 2 = .ok (.invokevirtual 76, 3) := by decide +kernel
theorem d_V_where_5 : decode c_V_where 5 = .ok (.iload_n 2, 1) := by decide +kernel
theorem d_V_where_6 : decode c_V_where 6 = .ok (.ifCond .lt (30), 3) := by decide +kernel
theorem d_V_where_9 : decode c_V_where 9 = .ok (.iload_n 2, 1) := by decide +kernel
theorem d_V_where_10 : decode c_V_where 10 = .ok (.aload_n 0, 1) := by decide +kernel
theorem d_V_where_11 : decode c_V_where 11 = .ok (.getfield 32, 3) := by decide +kernel
theorem d_V_where_14 : decode c_V_where 14 = .ok (.iload_n 1, 1) := by decide +kernel
theorem d_V_where_15 : decode c_V_where 15 = .ok (.invokevirtual 73, 3) := by decide +kernel
theorem d_V_where_18 : decode c_V_where 18 = .ok (.if_icmp .ge (18), 3) := by decide +kernel
theorem d_V_where_21 : decode c_V_where 21 = .ok (.iload_n 3, 1) := by decide +kernel
theorem d_V_where_22 : decode c_V_where 22 = .ok (.ifCond .lt (14), 3) := by decide +kernel
theorem d_V_where_25 : decode c_V_where 25 = .ok (.iload_n 3, 1) := by decide +kernel
theorem d_V_where_26 : decode c_V_where 26 = .ok (.aload_n 0, 1) := by decide +kernel
theorem d_V_where_27 : decode c_V_where 27 = .ok (.getfield 18, 3) := by decide +kernel
theorem d_V_where_30 : decode c_V_where 30 = .ok (.getfield 142, 3) := by decide +kernel
theorem d_V_where_33 : decode c_V_where 33 = .ok (.if_icmp .lt (11), 3) := by decide +kernel
theorem d_V_where_36 : decode c_V_where 36 = .ok (.new 95, 3) := by decide +kernel
theorem d_V_where_39 : decode c_V_where 39 = .ok (.dup, 1) := by decide +kernel
theorem d_V_where_40 : decode c_V_where 40 = .ok (.invokespecial 97, 3) := by decide +kernel
theorem d_V_where_43 : decode c_V_where 43 = .ok (.athrow, 1) := by decide +kernel
theorem d_V_where_44 : decode c_V_where 44 = .ok (.aload_n 0, 1) := by decide +kernel
theorem d_V_where_45 : decode c_V_where 45 = .ok (.getfield 32, 3) := by decide +kernel
theorem d_V_where_48 : decode c_V_where 48 = .ok (.aload_n 0, 1) := by decide +kernel
theorem d_V_where_49 : decode c_V_where 49 = .ok (.getfield 32, 3) := by decide +kernel
theorem d_V_where_52 : decode c_V_where 52 = .ok (.iload_n 1, 1) := by decide +kernel
theorem d_V_where_53 : decode c_V_where 53 = .ok (.iload_n 2, 1) := by decide +kernel
theorem d_V_where_54 : decode c_V_where 54 = .ok (.invokevirtual 83, 3) := by decide +kernel
theorem d_V_where_57 : decode c_V_where 57 = .ok (.iload_n 3, 1) := by decide +kernel
theorem d_V_where_58 : decode c_V_where 58 = .ok (.invokevirtual 145, 3) := by decide +kernel
theorem d_V_where_61 : decode c_V_where 61 = .ok (.ireturn, 1) := by decide +kernel
theorem d_V_length_0 : decode c_V_length 0 = .ok (.iload_n 1, 1) := by decide +kernel
theorem d_V_length_1 : decode c_V_length 1 = .ok (.invokestatic 50, 3) := by decide +kernel
theorem d_V_length_4 : decode c_V_length 4 = .ok (.ifCond .eq (25), 3) := by decide +kernel
theorem d_V_length_7 : decode c_V_length 7 = .ok (.aload_n 0, 1) := by decide +kernel
theorem d_V_length_8 : decode c_V_length 8 = .ok (.getfield 32, 3) := by decide +kernel
theorem d_V_length_11 : decode c_V_length 11 = .ok (.iload_n 1, 1) := by decide +kernel
theorem d_V_length_12 : decode c_V_length 12 = .ok (.invokevirtual 54, 3) := by decide +kernel
theorem d_V_length_15 : decode c_V_length 15 = .ok (.ifCond .eq (14), 3) := by decide +kernel
theorem d_V_length_18 : decode c_V_length 18 = .ok (.aload_n 0, 1) := by decide +kernel
theorem d_V_length_19 : decode c_V_length 19 = .ok (.getfield 32, 3) := by decide +kernel
theorem d_V_length_22 : decode c_V_length 22 = .ok (.iload_n 1, 1) := by decide +kernel
theorem d_V_length_23 : decode c_V_length 23 = .ok (.invokevirtual 92, 3) := by decide +kernel
theorem d_V_length_26 : decode c_V_length 26 = .ok (.goto (4), 3) := by decide +kernel
theorem d_V_length_29 : decode c_V_length 29 = .ok (.iconst (-1), 1) := by decide +kernel
theorem d_V_length_30 : decode c_V_length 30 = .ok (.ireturn, 1) := by decide +kernel
theorem d_V_room_0 : decode c_V_room 0 = .ok (.iload_n 1, 1) := by decide +kernel
theorem d_V_room_1 : decode c_V_room 1 = .ok (.invokestatic 148, 3) := by decide +kernel
theorem d_V_room_4 : decode c_V_room 4 = .ok (.ifCond .eq (25), 3) := by decide +kernel
theorem d_V_room_7 : decode c_V_room 7 = .ok (.aload_n 0, 1) := by decide +kernel
theorem d_V_room_8 : decode c_V_room 8 = .ok (.getfield 25, 3) := by decide +kernel
theorem d_V_room_11 : decode c_V_room 11 = .ok (.iload_n 1, 1) := by decide +kernel
theorem d_V_room_12 : decode c_V_room 12 = .ok (.invokevirtual 101, 3) := by decide +kernel
theorem d_V_room_15 : decode c_V_room 15 = .ok (.ifCond .eq (14), 3) := by decide +kernel
theorem d_V_room_18 : decode c_V_room 18 = .ok (.aload_n 0, 1) := by decide +kernel
theorem d_V_room_19 : decode c_V_room 19 = .ok (.getfield 25, 3) := by decide +kernel
theorem d_V_room_22 : decode c_V_room 22 = .ok (.iload_n 1, 1) := by decide +kernel
theorem d_V_room_23 : decode c_V_room 23 = .ok (.invokevirtual 104, 3) := by decide +kernel
theorem d_V_room_26 : decode c_V_room 26 = .ok (.goto (4), 3) := by decide +kernel
theorem d_V_room_29 : decode c_V_room 29 = .ok (.iconst (-1), 1) := by decide +kernel
theorem d_V_room_30 : decode c_V_room 30 = .ok (.ireturn, 1) := by decide +kernel
theorem d_V_product_0 : decode c_V_product 0 = .ok (.iload_n 1, 1) := by decide +kernel
theorem d_V_product_1 : decode c_V_product 1 = .ok (.invokestatic 151, 3) := by decide +kernel
theorem d_V_product_4 : decode c_V_product 4 = .ok (.ifCond .eq (15), 3) := by decide +kernel
theorem d_V_product_7 : decode c_V_product 7 = .ok (.iload_n 2, 1) := by decide +kernel
theorem d_V_product_8 : decode c_V_product 8 = .ok (.invokestatic 151, 3) := by decide +kernel
theorem d_V_product_11 : decode c_V_product 11 = .ok (.ifCond .ne (16), 3) := by decide +kernel
theorem d_V_product_14 : decode c_V_product 14 = .ok (.iload_n 2, 1) := by decide +kernel
theorem d_V_product_15 : decode c_V_product 15 = .ok (.iconst (-1), 1) := by decide +kernel
theorem d_V_product_16 : decode c_V_product 16 = .ok (.if_icmp .eq (11), 3) := by decide +kernel
theorem d_V_product_19 : decode c_V_product 19 = .ok (.new 57, 3) := by decide +kernel
theorem d_V_product_22 : decode c_V_product 22 = .ok (.dup, 1) := by decide +kernel
theorem d_V_product_23 : decode c_V_product 23 = .ok (.invokespecial 59, 3) := by decide +kernel
theorem d_V_product_26 : decode c_V_product 26 = .ok (.athrow, 1) := by decide +kernel
theorem d_V_product_27 : decode c_V_product 27 = .ok (.iload_n 2, 1) := by decide +kernel
theorem d_V_product_28 : decode c_V_product 28 = .ok (.iconst (-1), 1) := by decide +kernel
theorem d_V_product_29 : decode c_V_product 29 = .ok (.if_icmp .eq (9), 3) := by decide +kernel
theorem d_V_product_32 : decode c_V_product 32 = .ok (.iload_n 1, 1) := by decide +kernel
theorem d_V_product_33 : decode c_V_product 33 = .ok (.iload_n 2, 1) := by decide +kernel
theorem d_V_product_34 : decode c_V_product 34 = .ok (.invokestatic 154, 3) := by decide +kernel
theorem d_V_product_37 : decode c_V_product 37 = .ok (.ireturn, 1) := by decide +kernel
theorem d_V_product_38 : decode c_V_product 38 = .ok (.iload_n 1, 1) := by decide +kernel
theorem d_V_product_39 : decode c_V_product 39 = .ok (.ifCond .ne (11), 3) := by decide +kernel
theorem d_V_product_42 : decode c_V_product 42 = .ok (.new 157, 3) := by decide +kernel
theorem d_V_product_45 : decode c_V_product 45 = .ok (.dup, 1) := by decide +kernel
theorem d_V_product_46 : decode c_V_product 46 = .ok (.invokespecial 159, 3) := by decide +kernel
theorem d_V_product_49 : decode c_V_product 49 = .ok (.athrow, 1) := by decide +kernel
theorem d_V_product_50 : decode c_V_product 50 = .ok (.iload_n 1, 1) := by decide +kernel
theorem d_V_product_51 : decode c_V_product 51 = .ok (.invokestatic 160, 3) := by decide +kernel
theorem d_V_product_54 : decode c_V_product 54 = .ok (.ireturn, 1) := by decide +kernel
theorem d_V_nearest_0 : decode c_V_nearest 0 = .ok (.iconst (1), 1) := by decide +kernel
theorem d_V_nearest_1 : decode c_V_nearest 1 = .ok (.iload_n 0, 1) := by decide +kernel
theorem d_V_nearest_2 : decode c_V_nearest 2 = .ok (.iload_n 1, 1) := by decide +kernel
theorem d_V_nearest_3 : decode c_V_nearest 3 = .ok (.invokestatic 163, 3) := by decide +kernel
theorem d_V_nearest_6 : decode c_V_nearest 6 = .ok (.invokestatic 168, 3) := by decide +kernel
theorem d_V_nearest_9 : decode c_V_nearest 9 = .ok (.ireturn, 1) := by decide +kernel
theorem d_V_isByte_0 : decode c_V_isByte 0 = .ok (.iload_n 0, 1) := by decide +kernel
theorem d_V_isByte_1 : decode c_V_isByte 1 = .ok (.ifCond .lt (14), 3) := by decide +kernel
theorem d_V_isByte_4 : decode c_V_isByte 4 = .ok (.iload_n 0, 1) := by decide +kernel
theorem d_V_isByte_5 : decode c_V_isByte 5 = .ok (.sipush (255), 3) := by decide +kernel
theorem d_V_isByte_8 : decode c_V_isByte 8 = .ok (.if_icmp .gt (7), 3) := by decide +kernel
theorem d_V_isByte_11 : decode c_V_isByte 11 = .ok (.iconst (1), 1) := by decide +kernel
theorem d_V_isByte_12 : decode c_V_isByte 12 = .ok (.goto (4), 3) := by decide +kernel
theorem d_V_isByte_15 : decode c_V_isByte 15 = .ok (.iconst (0), 1) := by decide +kernel
theorem d_V_isByte_16 : decode c_V_isByte 16 = .ok (.ireturn, 1) := by decide +kernel
theorem d_V_isObjectNumber_0 : decode c_V_isObjectNumber 0 = .ok (.iload_n 0, 1) := by decide +kernel
theorem d_V_isObjectNumber_1 : decode c_V_isObjectNumber 1 = .ok (.ifCond .lt (13), 3) := by decide +kernel
theorem d_V_isObjectNumber_4 : decode c_V_isObjectNumber 4 = .ok (.iload_n 0, 1) := by decide +kernel
theorem d_V_isObjectNumber_5 : decode c_V_isObjectNumber 5 = .ok (.bipush (6), 2) := by decide +kernel
theorem d_V_isObjectNumber_7 : decode c_V_isObjectNumber 7 = .ok (.if_icmp .ge (7), 3) := by decide +kernel
theorem d_V_isObjectNumber_10 : decode c_V_isObjectNumber 10 = .ok (.iconst (1), 1) := by decide +kernel
theorem d_V_isObjectNumber_11 : decode c_V_isObjectNumber 11 = .ok (.goto (4), 3) := by decide +kernel
theorem d_V_isObjectNumber_14 : decode c_V_isObjectNumber 14 = .ok (.iconst (0), 1) := by decide +kernel
theorem d_V_isObjectNumber_15 : decode c_V_isObjectNumber 15 = .ok (.ireturn, 1) := by decide +kernel
theorem d_V_isDiskNumber_0 : decode c_V_isDiskNumber 0 = .ok (.iload_n 0, 1) := by decide +kernel
theorem d_V_isDiskNumber_1 : decode c_V_isDiskNumber 1 = .ok (.ifCond .lt (13), 3) := by decide +kernel
theorem d_V_isDiskNumber_4 : decode c_V_isDiskNumber 4 = .ok (.iload_n 0, 1) := by decide +kernel
theorem d_V_isDiskNumber_5 : decode c_V_isDiskNumber 5 = .ok (.bipush (8), 2) := by decide +kernel
theorem d_V_isDiskNumber_7 : decode c_V_isDiskNumber 7 = .ok (.if_icmp .ge (7), 3) := by decide +kernel
theorem d_V_isDiskNumber_10 : decode c_V_isDiskNumber 10 = .ok (.iconst (1), 1) := by decide +kernel
theorem d_V_isDiskNumber_11 : decode c_V_isDiskNumber 11 = .ok (.goto (4), 3) := by decide +kernel
theorem d_V_isDiskNumber_14 : decode c_V_isDiskNumber 14 = .ok (.iconst (0), 1) := by decide +kernel
theorem d_V_isDiskNumber_15 : decode c_V_isDiskNumber 15 = .ok (.ireturn, 1) := by decide +kernel
theorem d_V_placeAt_0 : decode c_V_placeAt 0 = .ok (.bipush (16), 2) := by decide +kernel
theorem d_V_placeAt_2 : decode c_V_placeAt 2 = .ok (.iload_n 0, 1) := by decide +kernel
theorem d_V_placeAt_3 : decode c_V_placeAt 3 = .ok (.imul, 1) := by decide +kernel
theorem d_V_placeAt_4 : decode c_V_placeAt 4 = .ok (.iload_n 1, 1) := by decide +kernel
theorem d_V_placeAt_5 : decode c_V_placeAt 5 = .ok (.iadd, 1) := by decide +kernel
theorem d_V_placeAt_6 : decode c_V_placeAt 6 = .ok (.ireturn, 1) := by decide +kernel
theorem d_V_times_0 : decode c_V_times 0 = .ok (.iconst (0), 1) := by decide +kernel
theorem d_V_times_1 : decode c_V_times 1 = .ok (.istore_n 2, 1) := by decide +kernel
theorem d_V_times_2 : decode c_V_times 2 = .ok (.iload_n 0, 1) := by decide +kernel
theorem d_V_times_3 : decode c_V_times 3 = .ok (.istore_n 3, 1) := by decide +kernel
theorem d_V_times_4 : decode c_V_times 4 = .ok (.iconst (0), 1) := by decide +kernel
theorem d_V_times_5 : decode c_V_times 5 = .ok (.istore 4, 2) := by decide +kernel
theorem d_V_times_7 : decode c_V_times 7 = .ok (.iload 4, 2) := by decide +kernel
theorem d_V_times_9 : decode c_V_times 9 = .ok (.bipush (8), 2) := by decide +kernel
theorem d_V_times_11 : decode c_V_times 11 = .ok (.if_icmp .ge (40), 3) := by decide +kernel
theorem d_V_times_14 : decode c_V_times 14 = .ok (.iload_n 1, 1) := by decide +kernel
theorem d_V_times_15 : decode c_V_times 15 = .ok (.iload 4, 2) := by decide +kernel
theorem d_V_times_17 : decode c_V_times 17 = .ok (.ishr, 1) := by decide +kernel
theorem d_V_times_18 : decode c_V_times 18 = .ok (.iconst (1), 1) := by decide +kernel
theorem d_V_times_19 : decode c_V_times 19 = .ok (.iand, 1) := by decide +kernel
theorem d_V_times_20 : decode c_V_times 20 = .ok (.iconst (1), 1) := by decide +kernel
theorem d_V_times_21 : decode c_V_times 21 = .ok (.if_icmp .ne (7), 3) := by decide +kernel
theorem d_V_times_24 : decode c_V_times 24 = .ok (.iload_n 2, 1) := by decide +kernel
theorem d_V_times_25 : decode c_V_times 25 = .ok (.iload_n 3, 1) := by decide +kernel
theorem d_V_times_26 : decode c_V_times 26 = .ok (.ixor, 1) := by decide +kernel
theorem d_V_times_27 : decode c_V_times 27 = .ok (.istore_n 2, 1) := by decide +kernel
theorem d_V_times_28 : decode c_V_times 28 = .ok (.iload_n 3, 1) := by decide +kernel
theorem d_V_times_29 : decode c_V_times 29 = .ok (.iconst (2), 1) := by decide +kernel
theorem d_V_times_30 : decode c_V_times 30 = .ok (.imul, 1) := by decide +kernel
theorem d_V_times_31 : decode c_V_times 31 = .ok (.istore_n 3, 1) := by decide +kernel
theorem d_V_times_32 : decode c_V_times 32 = .ok (.iload_n 3, 1) := by decide +kernel
theorem d_V_times_33 : decode c_V_times 33 = .ok (.sipush (256), 3) := by decide +kernel
theorem d_V_times_36 : decode c_V_times 36 = .ok (.if_icmp .lt (9), 3) := by decide +kernel
theorem d_V_times_39 : decode c_V_times 39 = .ok (.iload_n 3, 1) := by decide +kernel
theorem d_V_times_40 : decode c_V_times 40 = .ok (.sipush (285), 3) := by decide +kernel
theorem d_V_times_43 : decode c_V_times 43 = .ok (.ixor, 1) := by decide +kernel
theorem d_V_times_44 : decode c_V_times 44 = .ok (.istore_n 3, 1) := by decide +kernel
theorem d_V_times_45 : decode c_V_times 45 = .ok (.iinc 4 (1), 3) := by decide +kernel
theorem d_V_times_48 : decode c_V_times 48 = .ok (.goto (-41), 3) := by decide +kernel
theorem d_V_times_51 : decode c_V_times 51 = .ok (.iload_n 2, 1) := by decide +kernel
theorem d_V_times_52 : decode c_V_times 52 = .ok (.ireturn, 1) := by decide +kernel
theorem d_V_inverse_0 : decode c_V_inverse 0 = .ok (.iload_n 0, 1) := by decide +kernel
theorem d_V_inverse_1 : decode c_V_inverse 1 = .ok (.istore_n 1, 1) := by decide +kernel
theorem d_V_inverse_2 : decode c_V_inverse 2 = .ok (.iconst (1), 1) := by decide +kernel
theorem d_V_inverse_3 : decode c_V_inverse 3 = .ok (.istore_n 2, 1) := by decide +kernel
theorem d_V_inverse_4 : decode c_V_inverse 4 = .ok (.iconst (1), 1) := by decide +kernel
theorem d_V_inverse_5 : decode c_V_inverse 5 = .ok (.istore_n 3, 1) := by decide +kernel
theorem d_V_inverse_6 : decode c_V_inverse 6 = .ok (.iload_n 3, 1) := by decide +kernel
theorem d_V_inverse_7 : decode c_V_inverse 7 = .ok (.bipush (8), 2) := by decide +kernel
theorem d_V_inverse_9 : decode c_V_inverse 9 = .ok (.if_icmp .ge (21), 3) := by decide +kernel
theorem d_V_inverse_12 : decode c_V_inverse 12 = .ok (.iload_n 1, 1) := by decide +kernel
theorem d_V_inverse_13 : decode c_V_inverse 13 = .ok (.iload_n 1, 1) := by decide +kernel
theorem d_V_inverse_14 : decode c_V_inverse 14 = .ok (.invokestatic 154, 3) := by decide +kernel
theorem d_V_inverse_17 : decode c_V_inverse 17 = .ok (.istore_n 1, 1) := by decide +kernel
theorem d_V_inverse_18 : decode c_V_inverse 18 = .ok (.iload_n 2, 1) := by decide +kernel
theorem d_V_inverse_19 : decode c_V_inverse 19 = .ok (.iload_n 1, 1) := by decide +kernel
theorem d_V_inverse_20 : decode c_V_inverse 20 = .ok (.invokestatic 154, 3) := by decide +kernel
theorem d_V_inverse_23 : decode c_V_inverse 23 = .ok (.istore_n 2, 1) := by decide +kernel
theorem d_V_inverse_24 : decode c_V_inverse 24 = .ok (.iinc 3 (1), 3) := by decide +kernel
theorem d_V_inverse_27 : decode c_V_inverse 27 = .ok (.goto (-21), 3) := by decide +kernel
theorem d_V_inverse_30 : decode c_V_inverse 30 = .ok (.iload_n 2, 1) := by decide +kernel
theorem d_V_inverse_31 : decode c_V_inverse 31 = .ok (.ireturn, 1) := by decide +kernel
theorem d_V_requireObject_0 : decode c_V_requireObject 0 = .ok (.iload_n 1, 1) := by decide +kernel
theorem d_V_requireObject_1 : decode c_V_requireObject 1 = .ok (.invokestatic 50, 3) := by decide +kernel
theorem d_V_requireObject_4 : decode c_V_requireObject 4 = .ok (.ifCond .eq (14), 3) := by decide +kernel
theorem d_V_requireObject_7 : decode c_V_requireObject 7 = .ok (.aload_n 0, 1) := by decide +kernel
theorem d_V_requireObject_8 : decode c_V_requireObject 8 = .ok (.getfield 32, 3) := by decide +kernel
theorem d_V_requireObject_11 : decode c_V_requireObject 11 = .ok (.iload_n 1, 1) := by decide +kernel
theorem d_V_requireObject_12 : decode c_V_requireObject 12 = .ok (.invokevirtual 54, 3) := by decide +kernel
theorem d_V_requireObject_15 : decode c_V_requireObject 15 = .ok (.ifCond .ne (11), 3) := by decide +kernel
theorem d_V_requireObject_18 : decode c_V_requireObject 18 = .ok (.new 171, 3) := by decide +kernel
theorem d_V_requireObject_21 : decode c_V_requireObject 21 = .ok (.dup, 1) := by decide +kernel
theorem d_V_requireObject_22 : decode c_V_requireObject 22 = .ok (.invokespecial 173, 3) := by decide +kernel
theorem d_V_requireObject_25 : decode c_V_requireObject 25 = .ok (.athrow, 1) := by decide +kernel
theorem d_V_requireObject_26 : decode c_V_requireObject 26 = .ok (.return_, 1) := by decide +kernel
theorem d_V_requireDisk_0 : decode c_V_requireDisk 0 = .ok (.iload_n 1, 1) := by decide +kernel
theorem d_V_requireDisk_1 : decode c_V_requireDisk 1 = .ok (.invokestatic 148, 3) := by decide +kernel
theorem d_V_requireDisk_4 : decode c_V_requireDisk 4 = .ok (.ifCond .ne (11), 3) := by decide +kernel
theorem d_V_requireDisk_7 : decode c_V_requireDisk 7 = .ok (.new 57, 3) := by decide +kernel
theorem d_V_requireDisk_10 : decode c_V_requireDisk 10 = .ok (.dup, 1) := by decide +kernel
theorem d_V_requireDisk_11 : decode c_V_requireDisk 11 = .ok (.invokespecial 59, 3) := by decide +kernel
theorem d_V_requireDisk_14 : decode c_V_requireDisk 14 = .ok (.athrow, 1) := by decide +kernel
theorem d_V_requireDisk_15 : decode c_V_requireDisk 15 = .ok (.return_, 1) := by decide +kernel
theorem d_V_requireStoredByte_0 : decode c_V_requireStoredByte 0 = .ok (.aload_n 0, 1) := by decide +kernel
theorem d_V_requireStoredByte_1 : decode c_V_requireStoredByte 1 = .ok (.iload_n 1, 1) := by decide +kernel
theorem d_V_requireStoredByte_2 : decode c_V_requireStoredByte 2 = .ok (.invokevirtual 98, 3) := by decide +kernel
theorem d_V_requireStoredByte_5 : decode c_V_requireStoredByte 5 = .ok (.iload_n 2, 1) := by decide +kernel
theorem d_V_requireStoredByte_6 : decode c_V_requireStoredByte 6 = .ok (.ifCond .lt (18), 3) := by decide +kernel
theorem d_V_requireStoredByte_9 : decode c_V_requireStoredByte 9 = .ok (.iload_n 2, 1) := by decide +kernel
theorem d_V_requireStoredByte_10 : decode c_V_requireStoredByte 10 = .ok (.bipush (10), 2) := by decide +kernel
theorem d_V_requireStoredByte_12 : decode c_V_requireStoredByte 12 = .ok (.if_icmp .ge (12), 3) := by decide +kernel
theorem d_V_requireStoredByte_15 : decode c_V_requireStoredByte 15 = .ok (.iload_n 3, 1) := by decide +kernel
theorem d_V_requireStoredByte_16 : decode c_V_requireStoredByte 16 = .ok (.ifCond .lt (8), 3) := by decide +kernel
theorem d_V_requireStoredByte_19 : decode c_V_requireStoredByte 19 = .ok (.iload_n 3, 1) := by decide +kernel
theorem d_V_requireStoredByte_20 : decode c_V_requireStoredByte 20 = .ok (.iconst (4), 1) := by decide +kernel
theorem d_V_requireStoredByte_21 : decode c_V_requireStoredByte 21 = .ok (.if_icmp .lt (11), 3) := by decide +kernel
theorem d_V_requireStoredByte_24 : decode c_V_requireStoredByte 24 = .ok (.new 57, 3) := by decide +kernel
theorem d_V_requireStoredByte_27 : decode c_V_requireStoredByte 27 = .ok (.dup, 1) := by decide +kernel
theorem d_V_requireStoredByte_28 : decode c_V_requireStoredByte 28 = .ok (.invokespecial 59, 3) := by decide +kernel
theorem d_V_requireStoredByte_31 : decode c_V_requireStoredByte 31 = .ok (.athrow, 1) := by decide +kernel
theorem d_V_requireStoredByte_32 : decode c_V_requireStoredByte 32 = .ok (.aload_n 0, 1) := by decide +kernel
theorem d_V_requireStoredByte_33 : decode c_V_requireStoredByte 33 = .ok (.getfield 25, 3) := by decide +kernel
theorem d_V_requireStoredByte_36 : decode c_V_requireStoredByte 36 = .ok (.iload_n 1, 1) := by decide +kernel
theorem d_V_requireStoredByte_37 : decode c_V_requireStoredByte 37 = .ok (.iload_n 2, 1) := by decide +kernel
theorem d_V_requireStoredByte_38 : decode c_V_requireStoredByte 38 = .ok (.invokestatic 133, 3) := by decide +kernel
theorem d_V_requireStoredByte_41 : decode c_V_requireStoredByte 41 = .ok (.invokevirtual 174, 3) := by decide +kernel
theorem d_V_requireStoredByte_44 : decode c_V_requireStoredByte 44 = .ok (.ifCond .ne (11), 3) := by decide +kernel
theorem d_V_requireStoredByte_47 : decode c_V_requireStoredByte 47 = .ok (.new 171, 3) := by decide +kernel
theorem d_V_requireStoredByte_50 : decode c_V_requireStoredByte 50 = .ok (.dup, 1) := by decide +kernel
theorem d_V_requireStoredByte_51 : decode c_V_requireStoredByte 51 = .ok (.invokespecial 173, 3) := by decide +kernel
theorem d_V_requireStoredByte_54 : decode c_V_requireStoredByte 54 = .ok (.athrow, 1) := by decide +kernel
theorem d_V_requireStoredByte_55 : decode c_V_requireStoredByte 55 = .ok (.return_, 1) := by decide +kernel
theorem d_V_placeDraft_0 : decode c_V_placeDraft 0 = .ok (.iconst (0), 1) := by decide +kernel
theorem d_V_placeDraft_1 : decode c_V_placeDraft 1 = .ok (.istore_n 2, 1) := by decide +kernel
theorem d_V_placeDraft_2 : decode c_V_placeDraft 2 = .ok (.iload_n 2, 1) := by decide +kernel
theorem d_V_placeDraft_3 : decode c_V_placeDraft 3 = .ok (.aload_n 0, 1) := by decide +kernel
theorem d_V_placeDraft_4 : decode c_V_placeDraft 4 = .ok (.getfield 32, 3) := by decide +kernel
theorem d_V_placeDraft_7 : decode c_V_placeDraft 7 = .ok (.iload_n 1, 1) := by decide +kernel
theorem d_V_placeDraft_8 : decode c_V_placeDraft 8 = .ok (.invokevirtual 73, 3) := by decide +kernel
theorem d_V_placeDraft_11 : decode c_V_placeDraft 11 = .ok (.if_icmp .ge (57), 3) := by decide +kernel
theorem d_V_placeDraft_14 : decode c_V_placeDraft 14 = .ok (.aload_n 0, 1) := by decide +kernel
theorem d_V_placeDraft_15 : decode c_V_placeDraft 15 = .ok (.iload_n 2, 1) := by decide +kernel
theorem d_V_placeDraft_16 : decode c_V_placeDraft 16 = .ok (.invokevirtual 177, 3) := by decide +kernel
theorem d_V_placeDraft_19 : decode c_V_placeDraft 19 = .ok (.aload_n 0, 1) := by decide +kernel
theorem d_V_placeDraft_20 : decode c_V_placeDraft 20 = .ok (.getfield 32, 3) := by decide +kernel
theorem d_V_placeDraft_23 : decode c_V_placeDraft 23 = .ok (.iload_n 1, 1) := by decide +kernel
theorem d_V_placeDraft_24 : decode c_V_placeDraft 24 = .ok (.iload_n 2, 1) := by decide +kernel
theorem d_V_placeDraft_25 : decode c_V_placeDraft 25 = .ok (.invokevirtual 83, 3) := by decide +kernel
theorem d_V_placeDraft_28 : decode c_V_placeDraft 28 = .ok (.istore_n 3, 1) := by decide +kernel
theorem d_V_placeDraft_29 : decode c_V_placeDraft 29 = .ok (.iconst (0), 1) := by decide +kernel
theorem d_V_placeDraft_30 : decode c_V_placeDraft 30 = .ok (.istore 4, 2) := by decide +kernel
theorem d_V_placeDraft_32 : decode c_V_placeDraft 32 = .ok (.iload 4, 2) := by decide +kernel
theorem d_V_placeDraft_34 : decode c_V_placeDraft 34 = .ok (.aload_n 0, 1) := by decide +kernel
theorem d_V_placeDraft_35 : decode c_V_placeDraft 35 = .ok (.getfield 18, 3) := by decide +kernel
theorem d_V_placeDraft_38 : decode c_V_placeDraft 38 = .ok (.getfield 142, 3) := by decide +kernel
theorem d_V_placeDraft_41 : decode c_V_placeDraft 41 = .ok (.if_icmp .ge (21), 3) := by decide +kernel
theorem d_V_placeDraft_44 : decode c_V_placeDraft 44 = .ok (.aload_n 0, 1) := by decide +kernel
theorem d_V_placeDraft_45 : decode c_V_placeDraft 45 = .ok (.iload_n 3, 1) := by decide +kernel
theorem d_V_placeDraft_46 : decode c_V_placeDraft 46 = .ok (.iload 4, 2) := by decide +kernel
theorem d_V_placeDraft_48 : decode c_V_placeDraft 48 = .ok (.invokevirtual 180, 3) := by decide +kernel
theorem d_V_placeDraft_51 : decode c_V_placeDraft 51 = .ok (.ifCond .ne (5), 3) := by decide +kernel
theorem d_V_placeDraft_54 : decode c_V_placeDraft 54 = .ok (.iconst (0), 1) := by decide +kernel
theorem d_V_placeDraft_55 : decode c_V_placeDraft 55 = .ok (.ireturn, 1) := by decide +kernel
theorem d_V_placeDraft_56 : decode c_V_placeDraft 56 = .ok (.iinc 4 (1), 3) := by decide +kernel
theorem d_V_placeDraft_59 : decode c_V_placeDraft 59 = .ok (.goto (-27), 3) := by decide +kernel
theorem d_V_placeDraft_62 : decode c_V_placeDraft 62 = .ok (.iinc 2 (1), 3) := by decide +kernel
theorem d_V_placeDraft_65 : decode c_V_placeDraft 65 = .ok (.goto (-63), 3) := by decide +kernel
theorem d_V_placeDraft_68 : decode c_V_placeDraft 68 = .ok (.iconst (1), 1) := by decide +kernel
theorem d_V_placeDraft_69 : decode c_V_placeDraft 69 = .ok (.ireturn, 1) := by decide +kernel
theorem d_V_takeDataFromDraft_0 : decode c_V_takeDataFromDraft 0 = .ok (.iload_n 1, 1) := by decide +kernel
theorem d_V_takeDataFromDraft_1 : decode c_V_takeDataFromDraft 1 = .ok (.aload_n 0, 1) := by decide +kernel
theorem d_V_takeDataFromDraft_2 : decode c_V_takeDataFromDraft 2 = .ok (.getfield 18, 3) := by decide +kernel
theorem d_V_takeDataFromDraft_5 : decode c_V_takeDataFromDraft 5 = .ok (.getfield 184, 3) := by decide +kernel
theorem d_V_takeDataFromDraft_8 : decode c_V_takeDataFromDraft 8 = .ok (.imul, 1) := by decide +kernel
theorem d_V_takeDataFromDraft_9 : decode c_V_takeDataFromDraft 9 = .ok (.istore_n 2, 1) := by decide +kernel
theorem d_V_takeDataFromDraft_10 : decode c_V_takeDataFromDraft 10 = .ok (.iconst (0), 1) := by decide +kernel
theorem d_V_takeDataFromDraft_11 : decode c_V_takeDataFromDraft 11 = .ok (.istore_n 3, 1) := by decide +kernel
theorem d_V_takeDataFromDraft_12 : decode c_V_takeDataFromDraft 12 = .ok (.iload_n 3, 1) := by decide +kernel
theorem d_V_takeDataFromDraft_13 : decode c_V_takeDataFromDraft 13 = .ok (.aload_n 0, 1) := by decide +kernel
theorem d_V_takeDataFromDraft_14 : decode c_V_takeDataFromDraft 14 = .ok (.getfield 18, 3) := by decide +kernel
theorem d_V_takeDataFromDraft_17 : decode c_V_takeDataFromDraft 17 = .ok (.getfield 184, 3) := by decide +kernel
theorem d_V_takeDataFromDraft_20 : decode c_V_takeDataFromDraft 20 = .ok (.if_icmp .ge (40), 3) := by decide +kernel
theorem d_V_takeDataFromDraft_23 : decode c_V_takeDataFromDraft 23 = .ok (.aload_n 0, 1) := by decide +kernel
theorem d_V_takeDataFromDraft_24 : decode c_V_takeDataFromDraft 24 = .ok (.getfield 18, 3) := by decide +kernel
theorem d_V_takeDataFromDraft_27 : decode c_V_takeDataFromDraft 27 = .ok (.getfield 187, 3) := by decide +kernel
theorem d_V_takeDataFromDraft_30 : decode c_V_takeDataFromDraft 30 = .ok (.iload_n 3, 1) := by decide +kernel
theorem d_V_takeDataFromDraft_31 : decode c_V_takeDataFromDraft 31 = .ok (.iload_n 2, 1) := by decide +kernel
theorem d_V_takeDataFromDraft_32 : decode c_V_takeDataFromDraft 32 = .ok (.iload_n 3, 1) := by decide +kernel
theorem d_V_takeDataFromDraft_33 : decode c_V_takeDataFromDraft 33 = .ok (.iadd, 1) := by decide +kernel
theorem d_V_takeDataFromDraft_34 : decode c_V_takeDataFromDraft 34 = .ok (.aload_n 0, 1) := by decide +kernel
theorem d_V_takeDataFromDraft_35 : decode c_V_takeDataFromDraft 35 = .ok (.getfield 40, 3) := by decide +kernel
theorem d_V_takeDataFromDraft_38 : decode c_V_takeDataFromDraft 38 = .ok (.if_icmp .ge (14), 3) := by decide +kernel
theorem d_V_takeDataFromDraft_41 : decode c_V_takeDataFromDraft 41 = .ok (.aload_n 0, 1) := by decide +kernel
theorem d_V_takeDataFromDraft_42 : decode c_V_takeDataFromDraft 42 = .ok (.getfield 36, 3) := by decide +kernel
theorem d_V_takeDataFromDraft_45 : decode c_V_takeDataFromDraft 45 = .ok (.iload_n 2, 1) := by decide +kernel
theorem d_V_takeDataFromDraft_46 : decode c_V_takeDataFromDraft 46 = .ok (.iload_n 3, 1) := by decide +kernel
theorem d_V_takeDataFromDraft_47 : decode c_V_takeDataFromDraft 47 = .ok (.iadd, 1) := by decide +kernel
theorem d_V_takeDataFromDraft_48 : decode c_V_takeDataFromDraft 48 = .ok (.iaload, 1) := by decide +kernel
theorem d_V_takeDataFromDraft_49 : decode c_V_takeDataFromDraft 49 = .ok (.goto (4), 3) := by decide +kernel
theorem d_V_takeDataFromDraft_52 : decode c_V_takeDataFromDraft 52 = .ok (.iconst (0), 1) := by decide +kernel
theorem d_V_takeDataFromDraft_53 : decode c_V_takeDataFromDraft 53 = .ok (.iastore, 1) := by decide +kernel
theorem d_V_takeDataFromDraft_54 : decode c_V_takeDataFromDraft 54 = .ok (.iinc 3 (1), 3) := by decide +kernel
theorem d_V_takeDataFromDraft_57 : decode c_V_takeDataFromDraft 57 = .ok (.goto (-45), 3) := by decide +kernel
theorem d_V_takeDataFromDraft_60 : decode c_V_takeDataFromDraft 60 = .ok (.return_, 1) := by decide +kernel
theorem d_V_copyDataToOutput_0 : decode c_V_copyDataToOutput 0 = .ok (.iload_n 1, 1) := by decide +kernel
theorem d_V_copyDataToOutput_1 : decode c_V_copyDataToOutput 1 = .ok (.aload_n 0, 1) := by decide +kernel
theorem d_V_copyDataToOutput_2 : decode c_V_copyDataToOutput 2 = .ok (.getfield 18, 3) := by decide +kernel
theorem d_V_copyDataToOutput_5 : decode c_V_copyDataToOutput 5 = .ok (.getfield 184, 3) := by decide +kernel
theorem d_V_copyDataToOutput_8 : decode c_V_copyDataToOutput 8 = .ok (.imul, 1) := by decide +kernel
theorem d_V_copyDataToOutput_9 : decode c_V_copyDataToOutput 9 = .ok (.istore_n 2, 1) := by decide +kernel
theorem d_V_copyDataToOutput_10 : decode c_V_copyDataToOutput 10 = .ok (.iconst (0), 1) := by decide +kernel
theorem d_V_copyDataToOutput_11 : decode c_V_copyDataToOutput 11 = .ok (.istore_n 3, 1) := by decide +kernel
theorem d_V_copyDataToOutput_12 : decode c_V_copyDataToOutput 12 = .ok (.iload_n 3, 1) := by decide +kernel
theorem d_V_copyDataToOutput_13 : decode c_V_copyDataToOutput 13 = .ok (.aload_n 0, 1) := by decide +kernel
theorem d_V_copyDataToOutput_14 : decode c_V_copyDataToOutput 14 = .ok (.getfield 18, 3) := by decide +kernel
theorem d_V_copyDataToOutput_17 : decode c_V_copyDataToOutput 17 = .ok (.getfield 184, 3) := by decide +kernel
theorem d_V_copyDataToOutput_20 : decode c_V_copyDataToOutput 20 = .ok (.if_icmp .ge (34), 3) := by decide +kernel
theorem d_V_copyDataToOutput_23 : decode c_V_copyDataToOutput 23 = .ok (.iload_n 2, 1) := by decide +kernel
theorem d_V_copyDataToOutput_24 : decode c_V_copyDataToOutput 24 = .ok (.iload_n 3, 1) := by decide +kernel
theorem d_V_copyDataToOutput_25 : decode c_V_copyDataToOutput 25 = .ok (.iadd, 1) := by decide +kernel
theorem d_V_copyDataToOutput_26 : decode c_V_copyDataToOutput 26 = .ok (.bipush (32), 2) := by decide +kernel
theorem d_V_copyDataToOutput_28 : decode c_V_copyDataToOutput 28 = .ok (.if_icmp .ge (26), 3) := by decide +kernel
theorem d_V_copyDataToOutput_31 : decode c_V_copyDataToOutput 31 = .ok (.aload_n 0, 1) := by decide +kernel
theorem d_V_copyDataToOutput_32 : decode c_V_copyDataToOutput 32 = .ok (.getfield 44, 3) := by decide +kernel
theorem d_V_copyDataToOutput_35 : decode c_V_copyDataToOutput 35 = .ok (.iload_n 2, 1) := by decide +kernel
theorem d_V_copyDataToOutput_36 : decode c_V_copyDataToOutput 36 = .ok (.iload_n 3, 1) := by decide +kernel
theorem d_V_copyDataToOutput_37 : decode c_V_copyDataToOutput 37 = .ok (.iadd, 1) := by decide +kernel
theorem d_V_copyDataToOutput_38 : decode c_V_copyDataToOutput 38 = .ok (.aload_n 0, 1) := by decide +kernel
theorem d_V_copyDataToOutput_39 : decode c_V_copyDataToOutput 39 = .ok (.getfield 18, 3) := by decide +kernel
theorem d_V_copyDataToOutput_42 : decode c_V_copyDataToOutput 42 = .ok (.getfield 187, 3) := by decide +kernel
theorem d_V_copyDataToOutput_45 : decode c_V_copyDataToOutput 45 = .ok (.iload_n 3, 1) := by decide +kernel
theorem d_V_copyDataToOutput_46 : decode c_V_copyDataToOutput 46 = .ok (.iaload, 1) := by decide +kernel
theorem d_V_copyDataToOutput_47 : decode c_V_copyDataToOutput 47 = .ok (.iastore, 1) := by decide +kernel
theorem d_V_copyDataToOutput_48 : decode c_V_copyDataToOutput 48 = .ok (.iinc 3 (1), 3) := by decide +kernel
theorem d_V_copyDataToOutput_51 : decode c_V_copyDataToOutput 51 = .ok (.goto (-39), 3) := by decide +kernel
theorem d_V_copyDataToOutput_54 : decode c_V_copyDataToOutput 54 = .ok (.return_, 1) := by decide +kernel
theorem d_V_placeShard_0 : decode c_V_placeShard 0 = .ok (.aload_n 0, 1) := by decide +kernel
theorem d_V_placeShard_1 : decode c_V_placeShard 1 = .ok (.iload_n 1, 1) := by decide +kernel
theorem d_V_placeShard_2 : decode c_V_placeShard 2 = .ok (.invokevirtual 190, 3) := by decide +kernel
theorem d_V_placeShard_5 : decode c_V_placeShard 5 = .ok (.istore_n 3, 1) := by decide +kernel
theorem d_V_placeShard_6 : decode c_V_placeShard 6 = .ok (.iload_n 3, 1) := by decide +kernel
theorem d_V_placeShard_7 : decode c_V_placeShard 7 = .ok (.iconst (-1), 1) := by decide +kernel
theorem d_V_placeShard_8 : decode c_V_placeShard 8 = .ok (.if_icmp .ne (7), 3) := by decide +kernel
theorem d_V_placeShard_11 : decode c_V_placeShard 11 = .ok (.iconst (-1), 1) := by decide +kernel
theorem d_V_placeShard_12 : decode c_V_placeShard 12 = .ok (.goto (11), 3) := by decide +kernel
theorem d_V_placeShard_15 : decode c_V_placeShard 15 = .ok (.aload_n 0, 1) := by decide +kernel
theorem d_V_placeShard_16 : decode c_V_placeShard 16 = .ok (.getfield 25, 3) := by decide +kernel
theorem d_V_placeShard_19 : decode c_V_placeShard 19 = .ok (.iload_n 3, 1) := by decide +kernel
theorem d_V_placeShard_20 : decode c_V_placeShard 20 = .ok (.invokevirtual 193, 3) := by decide +kernel
theorem d_V_placeShard_23 : decode c_V_placeShard 23 = .ok (.istore 4, 2) := by decide +kernel
theorem d_V_placeShard_25 : decode c_V_placeShard 25 = .ok (.iload 4, 2) := by decide +kernel
theorem d_V_placeShard_27 : decode c_V_placeShard 27 = .ok (.iconst (-1), 1) := by decide +kernel
theorem d_V_placeShard_28 : decode c_V_placeShard 28 = .ok (.if_icmp .ne (5), 3) := by decide +kernel
theorem d_V_placeShard_31 : decode c_V_placeShard 31 = .ok (.iconst (0), 1) := by decide +kernel
theorem d_V_placeShard_32 : decode c_V_placeShard 32 = .ok (.ireturn, 1) := by decide +kernel
theorem d_V_placeShard_33 : decode c_V_placeShard 33 = .ok (.iconst (0), 1) := by decide +kernel
theorem d_V_placeShard_34 : decode c_V_placeShard 34 = .ok (.istore 5, 2) := by decide +kernel
theorem d_V_placeShard_36 : decode c_V_placeShard 36 = .ok (.iload 5, 2) := by decide +kernel
theorem d_V_placeShard_38 : decode c_V_placeShard 38 = .ok (.iconst (4), 1) := by decide +kernel
theorem d_V_placeShard_39 : decode c_V_placeShard 39 = .ok (.if_icmp .ge (30), 3) := by decide +kernel
theorem d_V_placeShard_42 : decode c_V_placeShard 42 = .ok (.aload_n 0, 1) := by decide +kernel
theorem d_V_placeShard_43 : decode c_V_placeShard 43 = .ok (.getfield 25, 3) := by decide +kernel
theorem d_V_placeShard_46 : decode c_V_placeShard 46 = .ok (.iload 4, 2) := by decide +kernel
theorem d_V_placeShard_48 : decode c_V_placeShard 48 = .ok (.iload 5, 2) := by decide +kernel
theorem d_V_placeShard_50 : decode c_V_placeShard 50 = .ok (.aload_n 0, 1) := by decide +kernel
theorem d_V_placeShard_51 : decode c_V_placeShard 51 = .ok (.getfield 18, 3) := by decide +kernel
theorem d_V_placeShard_54 : decode c_V_placeShard 54 = .ok (.iload_n 2, 1) := by decide +kernel
theorem d_V_placeShard_55 : decode c_V_placeShard 55 = .ok (.iload 5, 2) := by decide +kernel
theorem d_V_placeShard_57 : decode c_V_placeShard 57 = .ok (.invokevirtual 196, 3) := by decide +kernel
theorem d_V_placeShard_60 : decode c_V_placeShard 60 = .ok (.invokevirtual 139, 3) := by decide +kernel
theorem d_V_placeShard_63 : decode c_V_placeShard 63 = .ok (.iinc 5 (1), 3) := by decide +kernel
theorem d_V_placeShard_66 : decode c_V_placeShard 66 = .ok (.goto (-30), 3) := by decide +kernel
theorem d_V_placeShard_69 : decode c_V_placeShard 69 = .ok (.aload_n 0, 1) := by decide +kernel
theorem d_V_placeShard_70 : decode c_V_placeShard 70 = .ok (.getfield 32, 3) := by decide +kernel
theorem d_V_placeShard_73 : decode c_V_placeShard 73 = .ok (.iload_n 1, 1) := by decide +kernel
theorem d_V_placeShard_74 : decode c_V_placeShard 74 = .ok (.iload_n 2, 1) := by decide +kernel
theorem d_V_placeShard_75 : decode c_V_placeShard 75 = .ok (.iload 4, 2) := by decide +kernel
theorem d_V_placeShard_77 : decode c_V_placeShard 77 = .ok (.invokevirtual 199, 3) := by decide +kernel
theorem d_V_placeShard_80 : decode c_V_placeShard 80 = .ok (.iconst (1), 1) := by decide +kernel
theorem d_V_placeShard_81 : decode c_V_placeShard 81 = .ok (.ireturn, 1) := by decide +kernel
theorem d_V_roomiestDiskFor_0 : decode c_V_roomiestDiskFor 0 = .ok (.iconst (-1), 1) := by decide +kernel
theorem d_V_roomiestDiskFor_1 : decode c_V_roomiestDiskFor 1 = .ok (.istore_n 2, 1) := by decide +kernel
theorem d_V_roomiestDiskFor_2 : decode c_V_roomiestDiskFor 2 = .ok (.iconst (0), 1) := by decide +kernel
theorem d_V_roomiestDiskFor_3 : decode c_V_roomiestDiskFor 3 = .ok (.istore_n 3, 1) := by decide +kernel
theorem d_V_roomiestDiskFor_4 : decode c_V_roomiestDiskFor 4 = .ok (.iconst (0), 1) := by decide +kernel
theorem d_V_roomiestDiskFor_5 : decode c_V_roomiestDiskFor 5 = .ok (.istore 4, 2) := by decide +kernel
theorem d_V_roomiestDiskFor_7 : decode c_V_roomiestDiskFor 7 = .ok (.iload 4, 2) := by decide +kernel
theorem d_V_roomiestDiskFor_9 : decode c_V_roomiestDiskFor 9 = .ok (.bipush (8), 2) := by decide +kernel
theorem d_V_roomiestDiskFor_11 : decode c_V_roomiestDiskFor 11 = .ok (.if_icmp .ge (57), 3) := by decide +kernel
theorem d_V_roomiestDiskFor_14 : decode c_V_roomiestDiskFor 14 = .ok (.aload_n 0, 1) := by decide +kernel
theorem d_V_roomiestDiskFor_15 : decode c_V_roomiestDiskFor 15 = .ok (.getfield 25, 3) := by decide +kernel
theorem d_V_roomiestDiskFor_18 : decode c_V_roomiestDiskFor 18 = .ok (.iload 4, 2) := by decide +kernel
theorem d_V_roomiestDiskFor_20 : decode c_V_roomiestDiskFor 20 = .ok (.invokevirtual 104, 3) := by decide +kernel
theorem d_V_roomiestDiskFor_23 : decode c_V_roomiestDiskFor 23 = .ok (.istore 5, 2) := by decide +kernel
theorem d_V_roomiestDiskFor_25 : decode c_V_roomiestDiskFor 25 = .ok (.aload_n 0, 1) := by decide +kernel
theorem d_V_roomiestDiskFor_26 : decode c_V_roomiestDiskFor 26 = .ok (.getfield 25, 3) := by decide +kernel
theorem d_V_roomiestDiskFor_29 : decode c_V_roomiestDiskFor 29 = .ok (.iload 4, 2) := by decide +kernel
theorem d_V_roomiestDiskFor_31 : decode c_V_roomiestDiskFor 31 = .ok (.invokevirtual 101, 3) := by decide +kernel
theorem d_V_roomiestDiskFor_34 : decode c_V_roomiestDiskFor 34 = .ok (.ifCond .eq (28), 3) := by decide +kernel
theorem d_V_roomiestDiskFor_37 : decode c_V_roomiestDiskFor 37 = .ok (.iload 5, 2) := by decide +kernel
theorem d_V_roomiestDiskFor_39 : decode c_V_roomiestDiskFor 39 = .ok (.iload_n 3, 1) := by decide +kernel
theorem d_V_roomiestDiskFor_40 : decode c_V_roomiestDiskFor 40 = .ok (.if_icmp .le (22), 3) := by decide +kernel
theorem d_V_roomiestDiskFor_43 : decode c_V_roomiestDiskFor 43 = .ok (.aload_n 0, 1) := by decide +kernel
theorem d_V_roomiestDiskFor_44 : decode c_V_roomiestDiskFor 44 = .ok (.getfield 32, 3) := by decide +kernel
theorem d_V_roomiestDiskFor_47 : decode c_V_roomiestDiskFor 47 = .ok (.iload_n 1, 1) := by decide +kernel
theorem d_V_roomiestDiskFor_48 : decode c_V_roomiestDiskFor 48 = .ok (.iload 4, 2) := by decide +kernel
theorem d_V_roomiestDiskFor_50 : decode c_V_roomiestDiskFor 50 = .ok (.invokevirtual 202, 3) := by decide +kernel
theorem d_V_roomiestDiskFor_53 : decode c_V_roomiestDiskFor 53 = .ok (.ifCond .ne (9), 3) := by decide +kernel
theorem d_V_roomiestDiskFor_56 : decode c_V_roomiestDiskFor 56 = .ok (.iload 4, 2) := by decide +kernel
theorem d_V_roomiestDiskFor_58 : decode c_V_roomiestDiskFor 58 = .ok (.istore_n 2, 1) := by decide +kernel
theorem d_V_roomiestDiskFor_59 : decode c_V_roomiestDiskFor 59 = .ok (.iload 5, 2) := by decide +kernel
theorem d_V_roomiestDiskFor_61 : decode c_V_roomiestDiskFor 61 = .ok (.istore_n 3, 1) := by decide +kernel
theorem d_V_roomiestDiskFor_62 : decode c_V_roomiestDiskFor 62 = .ok (.iinc 4 (1), 3) := by decide +kernel
theorem d_V_roomiestDiskFor_65 : decode c_V_roomiestDiskFor 65 = .ok (.goto (-58), 3) := by decide +kernel
theorem d_V_roomiestDiskFor_68 : decode c_V_roomiestDiskFor 68 = .ok (.iload_n 2, 1) := by decide +kernel
theorem d_V_roomiestDiskFor_69 : decode c_V_roomiestDiskFor 69 = .ok (.ireturn, 1) := by decide +kernel
theorem d_V_releaseObject_0 : decode c_V_releaseObject 0 = .ok (.iconst (0), 1) := by decide +kernel
theorem d_V_releaseObject_1 : decode c_V_releaseObject 1 = .ok (.istore_n 2, 1) := by decide +kernel
theorem d_V_releaseObject_2 : decode c_V_releaseObject 2 = .ok (.iconst (0), 1) := by decide +kernel
theorem d_V_releaseObject_3 : decode c_V_releaseObject 3 = .ok (.istore_n 3, 1) := by decide +kernel
theorem d_V_releaseObject_4 : decode c_V_releaseObject 4 = .ok (.iload_n 3, 1) := by decide +kernel
theorem d_V_releaseObject_5 : decode c_V_releaseObject 5 = .ok (.aload_n 0, 1) := by decide +kernel
theorem d_V_releaseObject_6 : decode c_V_releaseObject 6 = .ok (.getfield 32, 3) := by decide +kernel
theorem d_V_releaseObject_9 : decode c_V_releaseObject 9 = .ok (.iload_n 1, 1) := by decide +kernel
theorem d_V_releaseObject_10 : decode c_V_releaseObject 10 = .ok (.invokevirtual 73, 3) := by decide +kernel
theorem d_V_releaseObject_13 : decode c_V_releaseObject 13 = .ok (.if_icmp .ge (84), 3) := by decide +kernel
theorem d_V_releaseObject_16 : decode c_V_releaseObject 16 = .ok (.aload_n 0, 1) := by decide +kernel
theorem d_V_releaseObject_17 : decode c_V_releaseObject 17 = .ok (.getfield 32, 3) := by decide +kernel
theorem d_V_releaseObject_20 : decode c_V_releaseObject 20 = .ok (.iload_n 1, 1) := by decide +kernel
theorem d_V_releaseObject_21 : decode c_V_releaseObject 21 = .ok (.iload_n 3, 1) := by decide +kernel
theorem d_V_releaseObject_22 : decode c_V_releaseObject 22 = .ok (.invokevirtual 83, 3) := by decide +kernel
theorem d_V_releaseObject_25 : decode c_V_releaseObject 25 = .ok (.istore 4, 2) := by decide +kernel
theorem d_V_releaseObject_27 : decode c_V_releaseObject 27 = .ok (.iconst (0), 1) := by decide +kernel
theorem d_V_releaseObject_28 : decode c_V_releaseObject 28 = .ok (.istore 5, 2) := by decide +kernel
theorem d_V_releaseObject_30 : decode c_V_releaseObject 30 = .ok (.iload 5, 2) := by decide +kernel
theorem d_V_releaseObject_32 : decode c_V_releaseObject 32 = .ok (.aload_n 0, 1) := by decide +kernel
theorem d_V_releaseObject_33 : decode c_V_releaseObject 33 = .ok (.getfield 18, 3) := by decide +kernel
theorem d_V_releaseObject_36 : decode c_V_releaseObject 36 = .ok (.getfield 142, 3) := by decide +kernel
theorem d_V_releaseObject_39 : decode c_V_releaseObject 39 = .ok (.if_icmp .ge (52), 3) := by decide +kernel
theorem d_V_releaseObject_42 : decode c_V_releaseObject 42 = .ok (.aload_n 0, 1) := by decide +kernel
theorem d_V_releaseObject_43 : decode c_V_releaseObject 43 = .ok (.getfield 32, 3) := by decide +kernel
theorem d_V_releaseObject_46 : decode c_V_releaseObject 46 = .ok (.iload 4, 2) := by decide +kernel
theorem d_V_releaseObject_48 : decode c_V_releaseObject 48 = .ok (.iload 5, 2) := by decide +kernel
theorem d_V_releaseObject_50 : decode c_V_releaseObject 50 = .ok (.invokevirtual 145, 3) := by decide +kernel
theorem d_V_releaseObject_53 : decode c_V_releaseObject 53 = .ok (.istore 6, 2) := by decide +kernel
theorem d_V_releaseObject_55 : decode c_V_releaseObject 55 = .ok (.iload 6, 2) := by decide +kernel
theorem d_V_releaseObject_57 : decode c_V_releaseObject 57 = .ok (.iconst (-1), 1) := by decide +kernel
theorem d_V_releaseObject_58 : decode c_V_releaseObject 58 = .ok (.if_icmp .eq (27), 3) := by decide +kernel
theorem d_V_releaseObject_61 : decode c_V_releaseObject 61 = .ok (.aload_n 0, 1) := by decide +kernel
theorem d_V_releaseObject_62 : decode c_V_releaseObject 62 = .ok (.getfield 25, 3) := by decide +kernel
theorem d_V_releaseObject_65 : decode c_V_releaseObject 65 = .ok (.iload 6, 2) := by decide +kernel
theorem d_V_releaseObject_67 : decode c_V_releaseObject 67 = .ok (.invokevirtual 205, 3) := by decide +kernel
theorem d_V_releaseObject_70 : decode c_V_releaseObject 70 = .ok (.aload_n 0, 1) := by decide +kernel
theorem d_V_releaseObject_71 : decode c_V_releaseObject 71 = .ok (.getfield 32, 3) := by decide +kernel
theorem d_V_releaseObject_74 : decode c_V_releaseObject 74 = .ok (.iload 4, 2) := by decide +kernel
theorem d_V_releaseObject_76 : decode c_V_releaseObject 76 = .ok (.iload 5, 2) := by decide +kernel
theorem d_V_releaseObject_78 : decode c_V_releaseObject 78 = .ok (.iconst (-1), 1) := by decide +kernel
theorem d_V_releaseObject_79 : decode c_V_releaseObject 79 = .ok (.invokevirtual 199, 3) := by decide +kernel
theorem d_V_releaseObject_82 : decode c_V_releaseObject 82 = .ok (.iinc 2 (1), 3) := by decide +kernel
theorem d_V_releaseObject_85 : decode c_V_releaseObject 85 = .ok (.iinc 5 (1), 3) := by decide +kernel
theorem d_V_releaseObject_88 : decode c_V_releaseObject 88 = .ok (.goto (-58), 3) := by decide +kernel
theorem d_V_releaseObject_91 : decode c_V_releaseObject 91 = .ok (.iinc 3 (1), 3) := by decide +kernel
theorem d_V_releaseObject_94 : decode c_V_releaseObject 94 = .ok (.goto (-90), 3) := by decide +kernel
theorem d_V_releaseObject_97 : decode c_V_releaseObject 97 = .ok (.aload_n 0, 1) := by decide +kernel
theorem d_V_releaseObject_98 : decode c_V_releaseObject 98 = .ok (.getfield 32, 3) := by decide +kernel
theorem d_V_releaseObject_101 : decode c_V_releaseObject 101 = .ok (.iload_n 1, 1) := by decide +kernel
theorem d_V_releaseObject_102 : decode c_V_releaseObject 102 = .ok (.invokevirtual 208, 3) := by decide +kernel
theorem d_V_releaseObject_105 : decode c_V_releaseObject 105 = .ok (.iload_n 2, 1) := by decide +kernel
theorem d_V_releaseObject_106 : decode c_V_releaseObject 106 = .ok (.ireturn, 1) := by decide +kernel
theorem d_V_isGone_0 : decode c_V_isGone 0 = .ok (.aload_n 0, 1) := by decide +kernel
theorem d_V_isGone_1 : decode c_V_isGone 1 = .ok (.getfield 32, 3) := by decide +kernel
theorem d_V_isGone_4 : decode c_V_isGone 4 = .ok (.iload_n 1, 1) := by decide +kernel
theorem d_V_isGone_5 : decode c_V_isGone 5 = .ok (.invokevirtual 211, 3) := by decide +kernel
theorem d_V_isGone_8 : decode c_V_isGone 8 = .ok (.aload_n 0, 1) := by decide +kernel
theorem d_V_isGone_9 : decode c_V_isGone 9 = .ok (.getfield 18, 3) := by decide +kernel
theorem d_V_isGone_12 : decode c_V_isGone 12 = .ok (.getfield 142, 3) := by decide +kernel
theorem d_V_isGone_15 : decode c_V_isGone 15 = .ok (.aload_n 0, 1) := by decide +kernel
theorem d_V_isGone_16 : decode c_V_isGone 16 = .ok (.getfield 18, 3) := by decide +kernel
theorem d_V_isGone_19 : decode c_V_isGone 19 = .ok (.getfield 214, 3) := by decide +kernel
theorem d_V_isGone_22 : decode c_V_isGone 22 = .ok (.isub, 1) := by decide +kernel
theorem d_V_isGone_23 : decode c_V_isGone 23 = .ok (.if_icmp .le (7), 3) := by decide +kernel
theorem d_V_isGone_26 : decode c_V_isGone 26 = .ok (.iconst (1), 1) := by decide +kernel
theorem d_V_isGone_27 : decode c_V_isGone 27 = .ok (.goto (4), 3) := by decide +kernel
theorem d_V_isGone_30 : decode c_V_isGone 30 = .ok (.iconst (0), 1) := by decide +kernel
theorem d_V_isGone_31 : decode c_V_isGone 31 = .ok (.ireturn, 1) := by decide +kernel
theorem d_V_hasGoneStripe_0 : decode c_V_hasGoneStripe 0 = .ok (.iconst (0), 1) := by decide +kernel
theorem d_V_hasGoneStripe_1 : decode c_V_hasGoneStripe 1 = .ok (.istore_n 2, 1) := by decide +kernel
theorem d_V_hasGoneStripe_2 : decode c_V_hasGoneStripe 2 = .ok (.iload_n 2, 1) := by decide +kernel
theorem d_V_hasGoneStripe_3 : decode c_V_hasGoneStripe 3 = .ok (.aload_n 0, 1) := by decide +kernel
theorem d_V_hasGoneStripe_4 : decode c_V_hasGoneStripe 4 = .ok (.getfield 32, 3) := by decide +kernel
theorem d_V_hasGoneStripe_7 : decode c_V_hasGoneStripe 7 = .ok (.iload_n 1, 1) := by decide +kernel
theorem d_V_hasGoneStripe_8 : decode c_V_hasGoneStripe 8 = .ok (.invokevirtual 73, 3) := by decide +kernel
theorem d_V_hasGoneStripe_11 : decode c_V_hasGoneStripe 11 = .ok (.if_icmp .ge (27), 3) := by decide +kernel
theorem d_V_hasGoneStripe_14 : decode c_V_hasGoneStripe 14 = .ok (.aload_n 0, 1) := by decide +kernel
theorem d_V_hasGoneStripe_15 : decode c_V_hasGoneStripe 15 = .ok (.aload_n 0, 1) := by decide +kernel
theorem d_V_hasGoneStripe_16 : decode c_V_hasGoneStripe 16 = .ok (.getfield 32, 3) := by decide +kernel
theorem d_V_hasGoneStripe_19 : decode c_V_hasGoneStripe 19 = .ok (.iload_n 1, 1) := by decide +kernel
theorem d_V_hasGoneStripe_20 : decode c_V_hasGoneStripe 20 = .ok (.iload_n 2, 1) := by decide +kernel
theorem d_V_hasGoneStripe_21 : decode c_V_hasGoneStripe 21 = .ok (.invokevirtual 83, 3) := by decide +kernel
theorem d_V_hasGoneStripe_24 : decode c_V_hasGoneStripe 24 = .ok (.invokevirtual 123, 3) := by decide +kernel
theorem d_V_hasGoneStripe_27 : decode c_V_hasGoneStripe 27 = .ok (.ifCond .eq (5), 3) := by decide +kernel
theorem d_V_hasGoneStripe_30 : decode c_V_hasGoneStripe 30 = .ok (.iconst (1), 1) := by decide +kernel
theorem d_V_hasGoneStripe_31 : decode c_V_hasGoneStripe 31 = .ok (.ireturn, 1) := by decide +kernel
theorem d_V_hasGoneStripe_32 : decode c_V_hasGoneStripe 32 = .ok (.iinc 2 (1), 3) := by decide +kernel
theorem d_V_hasGoneStripe_35 : decode c_V_hasGoneStripe 35 = .ok (.goto (-33), 3) := by decide +kernel
theorem d_V_hasGoneStripe_38 : decode c_V_hasGoneStripe 38 = .ok (.iconst (0), 1) := by decide +kernel
theorem d_V_hasGoneStripe_39 : decode c_V_hasGoneStripe 39 = .ok (.ireturn, 1) := by decide +kernel
theorem d_V_readStripe_0 : decode c_V_readStripe 0 = .ok (.aload_n 0, 1) := by decide +kernel
theorem d_V_readStripe_1 : decode c_V_readStripe 1 = .ok (.getfield 18, 3) := by decide +kernel
theorem d_V_readStripe_4 : decode c_V_readStripe 4 = .ok (.getfield 214, 3) := by decide +kernel
theorem d_V_readStripe_7 : decode c_V_readStripe 7 = .ok (.istore_n 2, 1) := by decide +kernel
theorem d_V_readStripe_8 : decode c_V_readStripe 8 = .ok (.iconst (1), 1) := by decide +kernel
theorem d_V_readStripe_9 : decode c_V_readStripe 9 = .ok (.istore_n 3, 1) := by decide +kernel
theorem d_V_readStripe_10 : decode c_V_readStripe 10 = .ok (.iconst (0), 1) := by decide +kernel
theorem d_V_readStripe_11 : decode c_V_readStripe 11 = .ok (.istore 4, 2) := by decide +kernel
theorem d_V_readStripe_13 : decode c_V_readStripe 13 = .ok (.iload 4, 2) := by decide +kernel
theorem d_V_readStripe_15 : decode c_V_readStripe 15 = .ok (.aload_n 0, 1) := by decide +kernel
theorem d_V_readStripe_16 : decode c_V_readStripe 16 = .ok (.getfield 18, 3) := by decide +kernel
theorem d_V_readStripe_19 : decode c_V_readStripe 19 = .ok (.getfield 214, 3) := by decide +kernel
theorem d_V_readStripe_22 : decode c_V_readStripe 22 = .ok (.if_icmp .ge (51), 3) := by decide +kernel
theorem d_V_readStripe_25 : decode c_V_readStripe 25 = .ok (.iload 4, 2) := by decide +kernel
theorem d_V_readStripe_27 : decode c_V_readStripe 27 = .ok (.istore 5, 2) := by decide +kernel
theorem d_V_readStripe_29 : decode c_V_readStripe 29 = .ok (.aload_n 0, 1) := by decide +kernel
theorem d_V_readStripe_30 : decode c_V_readStripe 30 = .ok (.getfield 32, 3) := by decide +kernel
theorem d_V_readStripe_33 : decode c_V_readStripe 33 = .ok (.iload_n 1, 1) := by decide +kernel
theorem d_V_readStripe_34 : decode c_V_readStripe 34 = .ok (.iload 4, 2) := by decide +kernel
theorem d_V_readStripe_36 : decode c_V_readStripe 36 = .ok (.invokevirtual 145, 3) := by decide +kernel
theorem d_V_readStripe_39 : decode c_V_readStripe 39 = .ok (.iconst (-1), 1) := by decide +kernel
theorem d_V_readStripe_40 : decode c_V_readStripe 40 = .ok (.if_icmp .ne (18), 3) := by decide +kernel
theorem d_V_readStripe_43 : decode c_V_readStripe 43 = .ok (.iconst (0), 1) := by decide +kernel
theorem d_V_readStripe_44 : decode c_V_readStripe 44 = .ok (.istore_n 3, 1) := by decide +kernel
theorem d_V_readStripe_45 : decode c_V_readStripe 45 = .ok (.aload_n 0, 1) := by decide +kernel
theorem d_V_readStripe_46 : decode c_V_readStripe 46 = .ok (.iload_n 1, 1) := by decide +kernel
theorem d_V_readStripe_47 : decode c_V_readStripe 47 = .ok (.iload_n 2, 1) := by decide +kernel
theorem d_V_readStripe_48 : decode c_V_readStripe 48 = .ok (.invokevirtual 217, 3) := by decide +kernel
theorem d_V_readStripe_51 : decode c_V_readStripe 51 = .ok (.istore_n 2, 1) := by decide +kernel
theorem d_V_readStripe_52 : decode c_V_readStripe 52 = .ok (.iload_n 2, 1) := by decide +kernel
theorem d_V_readStripe_53 : decode c_V_readStripe 53 = .ok (.istore 5, 2) := by decide +kernel
theorem d_V_readStripe_55 : decode c_V_readStripe 55 = .ok (.iinc 2 (1), 3) := by decide +kernel
theorem d_V_readStripe_58 : decode c_V_readStripe 58 = .ok (.aload_n 0, 1) := by decide +kernel
theorem d_V_readStripe_59 : decode c_V_readStripe 59 = .ok (.iload_n 1, 1) := by decide +kernel
theorem d_V_readStripe_60 : decode c_V_readStripe 60 = .ok (.iload 4, 2) := by decide +kernel
theorem d_V_readStripe_62 : decode c_V_readStripe 62 = .ok (.iload 5, 2) := by decide +kernel
theorem d_V_readStripe_64 : decode c_V_readStripe 64 = .ok (.invokevirtual 220, 3) := by decide +kernel
theorem d_V_readStripe_67 : decode c_V_readStripe 67 = .ok (.iinc 4 (1), 3) := by decide +kernel
theorem d_V_readStripe_70 : decode c_V_readStripe 70 = .ok (.goto (-57), 3) := by decide +kernel
theorem d_V_readStripe_73 : decode c_V_readStripe 73 = .ok (.iload_n 3, 1) := by decide +kernel
theorem d_V_readStripe_74 : decode c_V_readStripe 74 = .ok (.ifCond .ne (10), 3) := by decide +kernel
theorem d_V_readStripe_77 : decode c_V_readStripe 77 = .ok (.aload_n 0, 1) := by decide +kernel
theorem d_V_readStripe_78 : decode c_V_readStripe 78 = .ok (.getfield 18, 3) := by decide +kernel
theorem d_V_readStripe_81 : decode c_V_readStripe 81 = .ok (.invokevirtual 223, 3) := by decide +kernel
theorem d_V_readStripe_84 : decode c_V_readStripe 84 = .ok (.return_, 1) := by decide +kernel
end
section
/-! The machine over places: a world is a list of cells, a reference is a place in it. -/
def pv (ad : Nat → Nat) : Value → Value
  | .ref k => .ref (ad k)
  | v => v
def pe (ad cA : Nat → Nat) : va_E → va_E
  | .inl x => .inl (cA x.1, x.2)
  | .inr o => .inr (o.1, o.2.map (pv ad))
def pw (ad cA : Nat → Nat) (M : List va_E) : va_W := M.mapIdx (fun i e => (ad i, pe ad cA e))
theorem pw_at {ad cA : Nat → Nat} {M : List va_E} {k : Nat} {e : va_E} (h : M[k]? = some e) : (pw ad cA M)[k]? = some (ad k, pe ad cA e) := by
  simp [pw, List.getElem?_mapIdx, h]
theorem pw_len {ad cA : Nat → Nat} {M : List va_E} : (pw ad cA M).length = M.length := by simp [pw]
theorem pw_set {ad cA : Nat → Nat} {M : List va_E} {k : Nat} {e : va_E} : (pw ad cA M).set k (ad k, pe ad cA e) = pw ad cA (M.set k e) := by
  apply List.ext_getElem?
  intro i
  by_cases hi : k = i
  · subst hi
    by_cases hl : k < M.length
    · simp [pw, List.getElem?_mapIdx, List.getElem?_set, hl]
    · simp [pw, List.getElem?_mapIdx, List.getElem?_set, hl]
  · simp [pw, List.getElem?_mapIdx, List.getElem?_set, hi]
/-- a value whose reference lies below n -/
def pok (n : Nat) : Value → Bool
  | .ref k => decide (k < n)
  | _ => true
def pokE (n : Nat) : va_E → Bool
  | .inl _ => true
  | .inr o => o.2.all (pok n)
theorem pv_eq {ad ad' : Nat → Nat} {n : Nat} (h : ∀ i, i < n → ad' i = ad i) {v : Value} (hv : pok n v = true) : pv ad' v = pv ad v := by
  cases v <;> first | rfl | (simp [pok] at hv; simp [pv, h _ hv])
theorem pv_eqL {ad ad' : Nat → Nat} {n : Nat} (h : ∀ i, i < n → ad' i = ad i) {vs : List Value} (hv : vs.all (pok n) = true) : vs.map (pv ad') = vs.map (pv ad) := by
  apply List.map_congr_left
  intro v hm
  exact pv_eq h (List.all_eq_true.mp hv v hm)
theorem pe_eq {ad ad' cA : Nat → Nat} {n : Nat} (h : ∀ i, i < n → ad' i = ad i) {e : va_E} (he : pokE n e = true) : pe ad' cA e = pe ad cA e := by
  cases e with
  | inl x => rfl
  | inr o => simp only [pe]; rw [pv_eqL h he]
theorem pw_eq {ad ad' cA : Nat → Nat} {M : List va_E} (h : ∀ i, i < M.length → ad' i = ad i) (hM : M.all (pokE M.length) = true) : pw ad' cA M = pw ad cA M := by
  apply List.ext_getElem?
  intro i
  simp only [pw, List.getElem?_mapIdx]
  cases hi : M[i]? with
  | none => rfl
  | some e =>
    have hl : i < M.length := (List.getElem?_eq_some_iff.mp hi).1
    simp [h i hl, pe_eq h (List.all_eq_true.mp hM e (List.mem_of_getElem? hi))]
theorem pw_push {ad cA : Nat → Nat} {M : List va_E} {e : va_E} {q : Nat} (hM : M.all (pokE M.length) = true) (he : pokE M.length e = true) :
    pw (va_up ad M.length q) cA (M ++ [e]) = pw ad cA M ++ [(q, pe ad cA e)] := by
  have h : ∀ i, i < M.length → va_up ad M.length q i = ad i := fun i hi => va_up_ne ad q (Nat.ne_of_lt hi)
  unfold pw
  rw [List.mapIdx_append]
  have h1 := pw_eq (cA := cA) h hM
  unfold pw at h1
  rw [h1]
  simp [va_up_self, pe_eq h he]
/-! What a method is: its name, its class, its own name, its bytes, its words, its locals, its answer's type, its room, the cells and slots that it may make, its table of handlers -/
abbrev MI : Type := MethodName × String × String × ByteArray × List Cond × Nat × Option FieldType × Room × (Nat × Nat) × List ExceptionTableEntry
abbrev MI.y (I : MI) : MethodName := I.1
abbrev MI.own (I : MI) : String := I.2.1
abbrev MI.nm (I : MI) : String := I.2.2.1
abbrev MI.cc (I : MI) : ByteArray := I.2.2.2.1
abbrev MI.ws (I : MI) : List Cond := I.2.2.2.2.1
abbrev MI.nL (I : MI) : Nat := I.2.2.2.2.2.1
abbrev MI.ret (I : MI) : Option FieldType := I.2.2.2.2.2.2.1
abbrev MI.rm (I : MI) : Room := I.2.2.2.2.2.2.2.1
abbrev MI.mc (I : MI) : Nat := I.2.2.2.2.2.2.2.2.1.1
abbrev MI.ms (I : MI) : Nat := I.2.2.2.2.2.2.2.2.1.2
abbrev MI.tab (I : MI) : List ExceptionTableEntry := I.2.2.2.2.2.2.2.2.2
/-- how a call ends: an answer and the world, or the name of what is thrown and the world -/
abbrev Out : Type := (Option Value × List va_E) ⊕ (String × List va_E)
def ty3 (cA : Nat → Nat) : List (ClassId × FieldType) := [(cA 0, .int), (cA 1, .boolean), (cA 2, .long)]
/-- the words of a throw that speak of the heap -/
def zw : List Cond := [.isRef (.static Bundle.tN "UNASSIGNED_STACK" Bundle.steD), .isRef (.static Bundle.tN "SUPPRESSED_SENTINEL" Bundle.listD), .laysStatic Bundle.tN "UNASSIGNED_STACK" Bundle.steD, .laysStatic Bundle.tN "SUPPRESSED_SENTINEL" Bundle.listD]
/-- .. hold wherever the tables are alike and what lies outside A is as it is -/
def ZZ (A : Nat → Prop) (s : State) (H : Heap) : Prop := ∀ (U : State) (a' : Array Value), s.vm.Alike U.vm → H.size ≤ U.heap.size → (∀ q : Nat, q < H.size → ¬ A q → U.heap[q]? = H[q]?) → ∀ w ∈ zw, w.before a' U = true
theorem ZZ.kept {A : Nat → Prop} {s : State} {H H1 : Heap} (h : ZZ A s H) (hz : H.size ≤ H1.size) (hq : ∀ q : Nat, q < H.size → ¬ A q → H1[q]? = H[q]?) : ZZ A s H1 :=
  fun U a' h1 h2 h3 => h U a' h1 (Nat.le_trans hz h2) (fun q g1 g2 => (h3 q (Nat.lt_of_lt_of_le g1 hz) g2).trans (hq q g1 g2))
theorem ZZ.moved {A : Nat → Prop} {s U : State} {H : Heap} (h : ZZ A s H) (hv : s.vm.Alike U.vm) : ZZ A U H := fun V a' h1 => h V a' (hv.trans h1)
theorem ZZ.narrow {A B : Nat → Prop} {s : State} {H : Heap} (h : ZZ A s H) (hAB : ∀ q, q < H.size → B q → A q) : ZZ B s H := fun U a' h1 h2 h3 => h U a' h1 h2 (fun q g1 g2 => h3 q g1 (fun z => g2 (hAB q g1 z)))
/-- a word that stays true while the tables warm -/
def okw : Cond → Bool
  | .methodLinkNest .. => true
  | .castable .. => true
  | .declares .. => true
  | w => goodWord w
theorem okw_at {a a' : Array Value} {s U : State} {w : Cond} (hW : s.WarmedH U.vm) (hg : okw w = true) (h : w.before a s = true) : w.before a' U = true := by
  cases w <;> first
    | exact va_Nw.use rfl (va_Nw.warmM hW (va_Nw.of rfl h))
    | exact va_Nw.use rfl (va_Nw.warmC hW (va_Nw.of rfl h))
    | exact va_Nw.use rfl (va_Nw.warmD hW (va_Nw.of rfl h))
    | exact word_at hW (good_of_word hg) h
/-- what is thrown and not caught by a row that names another class -/
def ncp : List (String × String) := [("java/lang/IllegalStateException", "java/lang/IllegalArgumentException"), ("java/lang/IllegalStateException", "java/util/NoSuchElementException"), ("java/util/NoSuchElementException", "java/lang/IllegalArgumentException"), ("java/lang/IndexOutOfBoundsException", "java/util/NoSuchElementException"), ("java/lang/ArithmeticException", "java/lang/IllegalArgumentException")]
/-- the tables' words, here and wherever the tables are warmer -/
def NW (s : State) : Prop := (∀ (U : State) (a' : Array Value), s.WarmedH U.vm → ∀ w ∈ lw_tbl, okw w = true → w.before a' U = true) ∧ ∀ q ∈ ncp, va_Nc q.1 q.2 s
theorem NW.moved {s U : State} (h : NW s) (hW : s.WarmedH U.vm) : NW U := ⟨fun V a' h1 => h.1 V a' (State.WarmedH.trans hW h1), fun q hq => va_Nc.moved hW.alike (h.2 q hq)⟩
theorem NW.at {s : State} (h : NW s) {w : Cond} (hw : w ∈ lw_tbl) (ho : okw w = true) (args : Array Value) : w.before args s = true := h.1 s args (State.WarmedH.refl s) w hw ho
/-- a method's start -/
def Ps (D : va_G) (cA ad : Nat → Nat) (as : List Value) (M : List va_E) (sz : Nat) : Array Value → State → Prop := va_Pc (as.map (pv ad)) (fun U => U.heap.size = sz ∧ va_P D vwCl (pw ad cA M) U.heap ∧ va_K D vwCl (ty3 cA) U ∧ va_D (fun _ => True) (pw ad cA M) ∧ ZZ (va_A (pw ad cA M) sz) U U.heap ∧ NW U)
/-- .. and its end -/
def Qr (D : va_G) (cA ad : Nat → Nat) (n : Nat) (A : Nat → Prop) (r : Option Value × List va_E) : Array Value → State → Outcome → State → Prop := fun _ st o t =>
  (∃ ad' : Nat → Nat, (∀ i, i < n → ad' i = ad i) ∧ (r.2.length = n → ad' = ad) ∧ n ≤ r.2.length ∧ o = .returned (r.1.map (pv ad')) ∧ va_P D vwCl (pw ad' cA r.2) t.heap ∧ va_K D vwCl (ty3 cA) t ∧ va_D A (pw ad' cA r.2)) ∧ va_F A st t
def Qt (D : va_G) (cA ad : Nat → Nat) (n : Nat) (A : Nat → Prop) (mc ms : Nat) (r : String × List va_E) : Array Value → State → Outcome → State → Prop := fun _ st o t =>
  (∃ ad' : Nat → Nat, (∀ i, i < n → ad' i = ad i) ∧ (r.2.length = n → ad' = ad) ∧ n ≤ r.2.length ∧ va_P D vwCl (pw ad' cA r.2) t.heap ∧ va_K D vwCl (ty3 cA) t ∧ va_D A (pw ad' cA r.2)) ∧ ∃ (q : Addr) (ce : Cell) (L : List Loc), o = .threw q ∧ t.heap[q]? = some ce ∧ ce.vm = .none ∧ st.vm.findClass r.1 = some ce.cls ∧ va_F A st t ∧ st.WarmedH t.vm ∧ st.sameButNew ({ t with vm := st.vm } : State) L mc ms ∧ ∀ z ∈ L, A z.base
def Con (l : Launch) (I : MI) (as : List Value) (M : List va_E) : Out → Prop
  | .inl r => ∀ (D : va_G) (cA ad : Nat → Nat) (sz : Nat), Met l I.y I.ws I.rm (Ps D cA ad as M sz) (Qr D cA ad M.length (va_A (pw ad cA M) sz) r) I.mc I.ms (va_A (pw ad cA M) sz)
  | .inr r => ∀ (D : va_G) (cA ad : Nat → Nat) (sz : Nat), MetFree l I.y (headSpec I.ws I.rm) (Ps D cA ad as M sz) (fun _ _ _ _ _ => True) (Qt D cA ad M.length (va_A (pw ad cA M) sz) I.mc I.ms r)
/-- what holds at every point of a walk -/
def Cx (I : MI) (D : va_G) (cA ad : Nat → Nat) (p : Program) (s : State) (m : MethodId) (args : Array Value) (meth : Method) (c : Code) (A : Nat → Prop) (locs : List Loc) (H : Heap) (ls : Array Slot) (lv : List (Nat × Value)) (M : List va_E) : Prop :=
  p.tables.exec = Jvm.exec ∧ c.code = I.cc ∧ c.maxLocals = I.nL ∧ meth.sig.returnType = I.ret ∧ meth.locks = false ∧ meth.name = I.nm ∧ c.exceptionTable.toList = I.tab ∧ NW s ∧ s.vm.findClass I.own = some m.cls ∧
  va_K D vwCl (ty3 cA) s ∧ va_P D vwCl (pw ad cA M) H ∧ va_D A (pw ad cA M) ∧ va_S A s.heap H locs ∧ (∀ q, s.heap.size ≤ q → A q) ∧ ZZ A s s.heap ∧ lv_has ls I.nL (lv.map (fun q => (q.1, pv ad q.2)))
def JQ (D : va_G) (cA ad : Nat → Nat) (n : Nat) (A : Nat → Prop) (mc ms : Nat) (below : List Frame) (args : Array Value) (s : State) : Out → State → Prop
  | .inl r => MQ below (Qr D cA ad n A r) args s mc ms A
  | .inr r => fun t => ∃ o, t.status = .running ∧ Ended t below o ∧ Qt D cA ad n A mc ms r args s o t
/-- the judgement: from here the method ends as 'out' says -/
def J (l : Launch) (I : MI) (pc : Nat) (lv : List (Nat × Value)) (st : List Value) (M : List va_E) (k n : Nat) (out : Out) : Prop :=
  ∀ (D : va_G) (cA ad : Nat → Nat) (p : Program) (e : Env) (s : State) (m : MethodId) (args : Array Value) (below : List Frame) (meth : Method) (c : Code) (A : Nat → Prop) (locs : List Loc) (H : Heap) (ls : Array Slot),
    Cx I D cA ad p s m args meth c A locs H ls lv M → W p l e I.rm s m args below meth c H locs k n (JQ D cA ad M.length A I.mc I.ms below args s out) (F0 m pc ls (st.map (pv ad)))
end
section
section RULES
variable {l : Launch} {I : MI} {pc : Nat} {lv : List (Nat × Value)} {st : List Value} {M : List va_E} {k n : Nat} {out : Out}
theorem pv_cat (ad : Nat → Nat) (v : Value) : (pv ad v).category = v.category := by cases v <;> rfl
/-- a local by its number -/
def lk : List (Nat × Value) → Nat → Option Value
  | [], _ => none
  | q :: r, i => if q.1 = i then some q.2 else lk r i
theorem lk_mem : ∀ {lv : List (Nat × Value)} {i : Nat} {v : Value}, lk lv i = some v → (i, v) ∈ lv
  | [], _, _, h => by cases h
  | q :: r, i, v, h => by
    unfold lk at h
    split at h
    · rename_i e; cases h; subst e; exact List.mem_cons_self
    · exact List.mem_cons_of_mem _ (lk_mem h)
/-- .. set -/
def sv : List (Nat × Value) → Nat → Value → List (Nat × Value)
  | [], i, v => [(i, v)]
  | q :: r, i, v => if q.1 = i then (i, v) :: r else q :: sv r i v
/-- locals that stand once each, and no long one just ahead of i -/
def ndb : List (Nat × Value) → Bool
  | [] => true
  | q :: r => r.all (fun z => !(Nat.beq z.1 q.1)) && ndb r
theorem ndb_nodup : ∀ {lv : List (Nat × Value)}, ndb lv = true → (lv.map (·.1)).Nodup
  | [], _ => List.nodup_nil
  | q :: r, h => by
    simp only [ndb, Bool.and_eq_true] at h
    simp only [List.map_cons, List.nodup_cons]
    refine ⟨fun hm => ?_, ndb_nodup h.2⟩
    obtain ⟨z, hz, e⟩ := List.mem_map.mp hm
    have := List.all_eq_true.mp h.1 z hz
    simp [e, Nat.beq_eq_true_eq] at this
def sok (lv : List (Nat × Value)) (i : Nat) : Bool := lv.all (fun q => !(Nat.beq (q.1 + 1) i && Nat.beq q.2.category 2)) && ndb lv
theorem sv_mem : ∀ {lv : List (Nat × Value)} {i : Nat} {v : Value}, (lv.map (·.1)).Nodup → ∀ q ∈ sv lv i v, q = (i, v) ∨ (q ∈ lv ∧ q.1 ≠ i)
  | [], i, v, _, q, h => by simp [sv] at h; exact Or.inl h
  | q0 :: r, i, v, hn, q, h => by
    simp only [List.map_cons, List.nodup_cons] at hn
    unfold sv at h
    split at h
    · rename_i e
      rcases List.mem_cons.mp h with h | h
      · exact Or.inl h
      · refine Or.inr ⟨List.mem_cons_of_mem _ h, fun e2 => hn.1 ?_⟩
        rw [e, ← e2]; exact List.mem_map.mpr ⟨q, h, rfl⟩
    · rename_i e
      rcases List.mem_cons.mp h with h | h
      · subst h; exact Or.inr ⟨List.mem_cons_self, e⟩
      · rcases sv_mem hn.2 q h with h | h
        · exact Or.inl h
        · exact Or.inr ⟨List.mem_cons_of_mem _ h.1, h.2⟩
theorem lk_has {ad : Nat → Nat} {ls : Array Slot} {nL i : Nat} {v : Value} (h : lv_has ls nL (lv.map (fun q => (q.1, pv ad q.2)))) (hl : lk lv i = some v) : ls[i]? = some (.val (pv ad v)) :=
  h.2.2 (i, pv ad v) (List.mem_map.mpr ⟨(i, v), lk_mem hl, rfl⟩)
theorem sv_has {ad : Nat → Nat} {ls' : Array Slot} {nL i : Nat} {v : Value} (hs : sok lv i = true)
    (h : lv_has ls' nL ((i, pv ad v) :: (lv.map (fun q => (q.1, pv ad q.2))).filter (fun q => !(q.1 == i) && !(q.1 + 1 == i && q.2.category == 2)))) : lv_has ls' nL ((sv lv i v).map (fun q => (q.1, pv ad q.2))) := by
  simp only [sok, Bool.and_eq_true] at hs
  refine ⟨h.1, h.2.1, fun q hq => ?_⟩
  obtain ⟨q0, hq0, rfl⟩ := List.mem_map.mp hq
  refine h.2.2 _ ?_
  rcases sv_mem (ndb_nodup hs.2) q0 hq0 with e | ⟨hm, hne⟩
  · subst e; exact List.mem_cons_self
  · refine List.mem_cons_of_mem _ (List.mem_filter.mpr ⟨List.mem_map.mpr ⟨q0, hm, rfl⟩, ?_⟩)
    have h1 := List.all_eq_true.mp hs.1 q0 hm
    simp only [pv_cat]
    simp only [Bool.and_eq_true, Bool.not_eq_true', beq_eq_false_iff_ne]
    refine ⟨hne, ?_⟩
    cases hz : (q0.1 + 1 == i && q0.2.category == 2) with
    | false => rfl
    | true =>
      simp only [Bool.and_eq_true, beq_iff_eq] at hz
      rw [hz.1, hz.2] at h1
      simp at h1
theorem Cx.lv' {D : va_G} {cA ad : Nat → Nat} {p : Program} {s : State} {m : MethodId} {args : Array Value} {meth : Method} {c : Code} {A : Nat → Prop} {locs : List Loc} {H : Heap} {ls ls' : Array Slot} {lv' : List (Nat × Value)}
    (h : Cx I D cA ad p s m args meth c A locs H ls lv M) (h' : lv_has ls' I.nL (lv'.map (fun q => (q.1, pv ad q.2)))) : Cx I D cA ad p s m args meth c A locs H ls' lv' M := by
  obtain ⟨a1, a2, a3, a4, a5, a6, a7, a8, a9, a10, a11, a12, a13, a14, a15, -⟩ := h
  exact ⟨a1, a2, a3, a4, a5, a6, a7, a8, a9, a10, a11, a12, a13, a14, a15, h'⟩
theorem Cx.hp {D : va_G} {cA ad : Nat → Nat} {p : Program} {s : State} {m : MethodId} {args : Array Value} {meth : Method} {c : Code} {A : Nat → Prop} {locs locs' : List Loc} {H H' : Heap} {ls : Array Slot} {M' : List va_E}
    (h : Cx I D cA ad p s m args meth c A locs H ls lv M) (hP : va_P D vwCl (pw ad cA M') H') (hD : va_D A (pw ad cA M')) (hS : va_S A s.heap H' locs') : Cx I D cA ad p s m args meth c A locs' H' ls lv M' := by
  obtain ⟨a1, a2, a3, a4, a5, a6, a7, a8, a9, a10, -, -, -, a14, a15, a16⟩ := h
  exact ⟨a1, a2, a3, a4, a5, a6, a7, a8, a9, a10, hP, hD, hS, a14, a15, a16⟩
theorem Cx.hx {D : va_G} {cA ad : Nat → Nat} {p : Program} {s : State} {m : MethodId} {args : Array Value} {meth : Method} {c : Code} {A : Nat → Prop} {locs : List Loc} {H : Heap} {ls : Array Slot} (h : Cx I D cA ad p s m args meth c A locs H ls lv M) : p.tables.exec = Jvm.exec := h.1
theorem Cx.hb {D : va_G} {cA ad : Nat → Nat} {p : Program} {s : State} {m : MethodId} {args : Array Value} {meth : Method} {c : Code} {A : Nat → Prop} {locs : List Loc} {H : Heap} {ls : Array Slot} (h : Cx I D cA ad p s m args meth c A locs H ls lv M) : c.code = I.cc := h.2.1
theorem Cx.hl {D : va_G} {cA ad : Nat → Nat} {p : Program} {s : State} {m : MethodId} {args : Array Value} {meth : Method} {c : Code} {A : Nat → Prop} {locs : List Loc} {H : Heap} {ls : Array Slot} (h : Cx I D cA ad p s m args meth c A locs H ls lv M) : lv_has ls I.nL (lv.map (fun q => (q.1, pv ad q.2))) := h.2.2.2.2.2.2.2.2.2.2.2.2.2.2.2
theorem J.iconst {z : Int} {v : Int32} (hd : decode I.cc pc = .ok (.iconst z, 1)) (hv : Int32.ofInt z = v) (kk : J l I (pc + 1) lv (.int v :: st) M k n out) : J l I pc lv (st) M k n out :=
  fun D cA ad p e s m args below meth c A locs H ls h => lv_iconst h.hx h.hb hd hv (kk D cA ad p e s m args below meth c A locs H ls h)
theorem J.bipush {z : Int} {v : Int32} (hd : decode I.cc pc = .ok (.bipush z, 2)) (hv : (Int8.ofInt z).toInt32 = v) (kk : J l I (pc + 2) lv (.int v :: st) M k n out) : J l I pc lv (st) M k n out :=
  fun D cA ad p e s m args below meth c A locs H ls h => lv_bipush h.hx h.hb hd hv (kk D cA ad p e s m args below meth c A locs H ls h)
theorem J.sipush {z : Int} {v : Int32} (hd : decode I.cc pc = .ok (.sipush z, 3)) (hv : (Int16.ofInt z).toInt32 = v) (kk : J l I (pc + 3) lv (.int v :: st) M k n out) : J l I pc lv (st) M k n out :=
  fun D cA ad p e s m args below meth c A locs H ls h => lv_sipush h.hx h.hb hd hv (kk D cA ad p e s m args below meth c A locs H ls h)
theorem J.lconst {z : Fin 2} {v : Int64} (hd : decode I.cc pc = .ok (.lconst z, 1)) (hv : Int64.ofNat (z : Nat) = v) (kk : J l I (pc + 1) lv (.long v :: st) M k n out) : J l I pc lv (st) M k n out :=
  fun D cA ad p e s m args below meth c A locs H ls h => lv_lconst h.hx h.hb hd hv (kk D cA ad p e s m args below meth c A locs H ls h)
theorem J.iload_n {j : Fin 4} {i : Nat} {x : Int32} (hd : decode I.cc pc = .ok (.iload_n j, 1)) (hi : (j : Nat) = i) (hl : lk lv i = some (.int x)) (kk : J l I (pc + 1) lv (.int x :: st) M k n out) : J l I pc lv (st) M k n out :=
  fun D cA ad p e s m args below meth c A locs H ls h => lv_iload_n h.hx h.hb hd hi (lk_has h.hl hl) (kk D cA ad p e s m args below meth c A locs H ls h)
theorem J.iload {i : Nat} {x : Int32} (hd : decode I.cc pc = .ok (.iload i, 2)) (hl : lk lv i = some (.int x)) (kk : J l I (pc + 2) lv (.int x :: st) M k n out) : J l I pc lv (st) M k n out :=
  fun D cA ad p e s m args below meth c A locs H ls h => lv_iload h.hx h.hb hd (lk_has h.hl hl) (kk D cA ad p e s m args below meth c A locs H ls h)
theorem J.lload_n {j : Fin 4} {i : Nat} {x : Int64} (hd : decode I.cc pc = .ok (.lload_n j, 1)) (hi : (j : Nat) = i) (hl : lk lv i = some (.long x)) (kk : J l I (pc + 1) lv (.long x :: st) M k n out) : J l I pc lv (st) M k n out :=
  fun D cA ad p e s m args below meth c A locs H ls h => lv_lload_n h.hx h.hb hd hi (lk_has h.hl hl) (kk D cA ad p e s m args below meth c A locs H ls h)
theorem J.lload {i : Nat} {x : Int64} (hd : decode I.cc pc = .ok (.lload i, 2)) (hl : lk lv i = some (.long x)) (kk : J l I (pc + 2) lv (.long x :: st) M k n out) : J l I pc lv (st) M k n out :=
  fun D cA ad p e s m args below meth c A locs H ls h => lv_lload h.hx h.hb hd (lk_has h.hl hl) (kk D cA ad p e s m args below meth c A locs H ls h)
theorem J.aload_n {j : Fin 4} {i : Nat} {x : Nat} (hd : decode I.cc pc = .ok (.aload_n j, 1)) (hi : (j : Nat) = i) (hl : lk lv i = some (.ref x)) (kk : J l I (pc + 1) lv (.ref x :: st) M k n out) : J l I pc lv (st) M k n out :=
  fun D cA ad p e s m args below meth c A locs H ls h => lv_aload_n h.hx h.hb hd hi (lk_has h.hl hl) (kk D cA ad p e s m args below meth c A locs H ls h)
theorem J.aload {i : Nat} {x : Nat} (hd : decode I.cc pc = .ok (.aload i, 2)) (hl : lk lv i = some (.ref x)) (kk : J l I (pc + 2) lv (.ref x :: st) M k n out) : J l I pc lv (st) M k n out :=
  fun D cA ad p e s m args below meth c A locs H ls h => lv_aload h.hx h.hb hd (lk_has h.hl hl) (kk D cA ad p e s m args below meth c A locs H ls h)
theorem J.istore_n {j : Fin 4} {i : Nat} {x : Int32} {r : List Value} (hd : decode I.cc pc = .ok (.istore_n j, 1)) (hi : (j : Nat) = i) (hn : i < I.nL) (hs : sok lv i = true) (kk : J l I (pc + 1) (sv lv i (.int x)) r M k n out) : J l I pc lv (.int x :: r) M k n out :=
  fun D cA ad p e s m args below meth c A locs H ls h => lv_istore_n h.hx h.hb hd hi h.hl hn rfl (fun ls' h' => kk D cA ad p e s m args below meth c A locs H ls' (h.lv' (sv_has (v := .int x) hs h')))
theorem J.istore {i : Nat} {x : Int32} {r : List Value} (hd : decode I.cc pc = .ok (.istore i, 2)) (hn : i < I.nL) (hs : sok lv i = true) (kk : J l I (pc + 2) (sv lv i (.int x)) r M k n out) : J l I pc lv (.int x :: r) M k n out :=
  fun D cA ad p e s m args below meth c A locs H ls h => lv_istore h.hx h.hb hd h.hl hn rfl (fun ls' h' => kk D cA ad p e s m args below meth c A locs H ls' (h.lv' (sv_has (v := .int x) hs h')))
theorem J.astore_n {j : Fin 4} {i : Nat} {x : Nat} {r : List Value} (hd : decode I.cc pc = .ok (.astore_n j, 1)) (hi : (j : Nat) = i) (hn : i < I.nL) (hs : sok lv i = true) (kk : J l I (pc + 1) (sv lv i (.ref x)) r M k n out) : J l I pc lv (.ref x :: r) M k n out :=
  fun D cA ad p e s m args below meth c A locs H ls h => lv_astore_n h.hx h.hb hd hi h.hl hn rfl (fun ls' h' => kk D cA ad p e s m args below meth c A locs H ls' (h.lv' (sv_has (v := .ref x) hs h')))
theorem J.astore {i : Nat} {x : Nat} {r : List Value} (hd : decode I.cc pc = .ok (.astore i, 2)) (hn : i < I.nL) (hs : sok lv i = true) (kk : J l I (pc + 2) (sv lv i (.ref x)) r M k n out) : J l I pc lv (.ref x :: r) M k n out :=
  fun D cA ad p e s m args below meth c A locs H ls h => lv_astore h.hx h.hb hd h.hl hn rfl (fun ls' h' => kk D cA ad p e s m args below meth c A locs H ls' (h.lv' (sv_has (v := .ref x) hs h')))
theorem J.iinc {i : Nat} {z : Int} {x v : Int32} (hd : decode I.cc pc = .ok (.iinc i z, 3)) (hl : lk lv i = some (.int x)) (hv : x + Int32.ofInt z = v) (hn : i < I.nL) (hs : sok lv i = true) (kk : J l I (pc + 3) (sv lv i (.int v)) st M k n out) : J l I pc lv st M k n out := by
  intro D cA ad p e s m args below meth c A locs H ls h
  obtain ⟨j, hj⟩ := List.getElem?_of_mem (List.mem_map.mpr ⟨(i, Value.int x), lk_mem hl, rfl⟩ : (i, pv ad (Value.int x)) ∈ lv.map (fun q => (q.1, pv ad q.2)))
  exact lv_iinc h.hx h.hb hd h.hl (k := j) hj hv hn rfl (fun ls' h' => kk D cA ad p e s m args below meth c A locs H ls' (h.lv' (sv_has (v := .int v) hs h')))
theorem J.iadd {x y : Int32} {r : List Value} (hd : decode I.cc pc = .ok (.iadd, 1)) (kk : J l I (pc + 1) lv (.int (x + y) :: r) M k n out) : J l I pc lv (.int y :: .int x :: r) M k n out :=
  fun D cA ad p e s m args below meth c A locs H ls h => lv_iadd h.hx h.hb hd (kk D cA ad p e s m args below meth c A locs H ls h)
theorem J.isub {x y : Int32} {r : List Value} (hd : decode I.cc pc = .ok (.isub, 1)) (kk : J l I (pc + 1) lv (.int (x - y) :: r) M k n out) : J l I pc lv (.int y :: .int x :: r) M k n out :=
  fun D cA ad p e s m args below meth c A locs H ls h => lv_isub h.hx h.hb hd (kk D cA ad p e s m args below meth c A locs H ls h)
theorem J.imul {x y : Int32} {r : List Value} (hd : decode I.cc pc = .ok (.imul, 1)) (kk : J l I (pc + 1) lv (.int (x * y) :: r) M k n out) : J l I pc lv (.int y :: .int x :: r) M k n out :=
  fun D cA ad p e s m args below meth c A locs H ls h => lv_imul h.hx h.hb hd (kk D cA ad p e s m args below meth c A locs H ls h)
theorem J.iand {x y : Int32} {r : List Value} (hd : decode I.cc pc = .ok (.iand, 1)) (kk : J l I (pc + 1) lv (.int (x &&& y) :: r) M k n out) : J l I pc lv (.int y :: .int x :: r) M k n out :=
  fun D cA ad p e s m args below meth c A locs H ls h => lv_iand h.hx h.hb hd (kk D cA ad p e s m args below meth c A locs H ls h)
theorem J.ior {x y : Int32} {r : List Value} (hd : decode I.cc pc = .ok (.ior, 1)) (kk : J l I (pc + 1) lv (.int (x ||| y) :: r) M k n out) : J l I pc lv (.int y :: .int x :: r) M k n out :=
  fun D cA ad p e s m args below meth c A locs H ls h => lv_ior h.hx h.hb hd (kk D cA ad p e s m args below meth c A locs H ls h)
theorem J.ixor {x y : Int32} {r : List Value} (hd : decode I.cc pc = .ok (.ixor, 1)) (kk : J l I (pc + 1) lv (.int (x ^^^ y) :: r) M k n out) : J l I pc lv (.int y :: .int x :: r) M k n out :=
  fun D cA ad p e s m args below meth c A locs H ls h => lv_ixor h.hx h.hb hd (kk D cA ad p e s m args below meth c A locs H ls h)
theorem J.land {x y : Int64} {r : List Value} (hd : decode I.cc pc = .ok (.land, 1)) (kk : J l I (pc + 1) lv (.long (x &&& y) :: r) M k n out) : J l I pc lv (.long y :: .long x :: r) M k n out :=
  fun D cA ad p e s m args below meth c A locs H ls h => lv_land h.hx h.hb hd (kk D cA ad p e s m args below meth c A locs H ls h)
theorem J.lor {x y : Int64} {r : List Value} (hd : decode I.cc pc = .ok (.lor, 1)) (kk : J l I (pc + 1) lv (.long (x ||| y) :: r) M k n out) : J l I pc lv (.long y :: .long x :: r) M k n out :=
  fun D cA ad p e s m args below meth c A locs H ls h => lv_lor h.hx h.hb hd (kk D cA ad p e s m args below meth c A locs H ls h)
theorem J.lxor {x y : Int64} {r : List Value} (hd : decode I.cc pc = .ok (.lxor, 1)) (kk : J l I (pc + 1) lv (.long (x ^^^ y) :: r) M k n out) : J l I pc lv (.long y :: .long x :: r) M k n out :=
  fun D cA ad p e s m args below meth c A locs H ls h => lv_lxor h.hx h.hb hd (kk D cA ad p e s m args below meth c A locs H ls h)
theorem J.ladd {x y : Int64} {r : List Value} (hd : decode I.cc pc = .ok (.ladd, 1)) (kk : J l I (pc + 1) lv (.long (x + y) :: r) M k n out) : J l I pc lv (.long y :: .long x :: r) M k n out :=
  fun D cA ad p e s m args below meth c A locs H ls h => lv_ladd h.hx h.hb hd (kk D cA ad p e s m args below meth c A locs H ls h)
theorem J.idiv {x y : Int32} {r : List Value} (hd : decode I.cc pc = .ok (.idiv, 1)) (hne : ¬ y = 0) (kk : J l I (pc + 1) lv (.int (x / y) :: r) M k n out) : J l I pc lv (.int y :: .int x :: r) M k n out :=
  fun D cA ad p e s m args below meth c A locs H ls h => lv_idiv h.hx h.hb hd hne (kk D cA ad p e s m args below meth c A locs H ls h)
theorem J.irem {x y : Int32} {r : List Value} (hd : decode I.cc pc = .ok (.irem, 1)) (hne : ¬ y = 0) (kk : J l I (pc + 1) lv (.int (x - x / y * y) :: r) M k n out) : J l I pc lv (.int y :: .int x :: r) M k n out :=
  fun D cA ad p e s m args below meth c A locs H ls h => lv_irem h.hx h.hb hd hne (kk D cA ad p e s m args below meth c A locs H ls h)
theorem J.ishl {x y : Int32} {r : List Value} (hd : decode I.cc pc = .ok (.ishl, 1)) (kk : J l I (pc + 1) lv (.int (x <<< (y &&& 31)) :: r) M k n out) : J l I pc lv (.int y :: .int x :: r) M k n out :=
  fun D cA ad p e s m args below meth c A locs H ls h => lv_ishl h.hx h.hb hd (kk D cA ad p e s m args below meth c A locs H ls h)
theorem J.ishr {x y : Int32} {r : List Value} (hd : decode I.cc pc = .ok (.ishr, 1)) (kk : J l I (pc + 1) lv (.int (x >>> (y &&& 31)) :: r) M k n out) : J l I pc lv (.int y :: .int x :: r) M k n out :=
  fun D cA ad p e s m args below meth c A locs H ls h => lv_ishr h.hx h.hb hd (kk D cA ad p e s m args below meth c A locs H ls h)
theorem J.i2l {x : Int32} {r : List Value} (hd : decode I.cc pc = .ok (.i2l, 1)) (kk : J l I (pc + 1) lv (.long x.toInt64 :: r) M k n out) : J l I pc lv (.int x :: r) M k n out :=
  fun D cA ad p e s m args below meth c A locs H ls h => lv_i2l h.hx h.hb hd rfl (kk D cA ad p e s m args below meth c A locs H ls h)
theorem J.l2i {x : Int64} {r : List Value} (hd : decode I.cc pc = .ok (.l2i, 1)) (kk : J l I (pc + 1) lv (.int x.toInt32 :: r) M k n out) : J l I pc lv (.long x :: r) M k n out :=
  fun D cA ad p e s m args below meth c A locs H ls h => lv_l2i h.hx h.hb hd rfl (kk D cA ad p e s m args below meth c A locs H ls h)
theorem J.lushr {x : Int64} {y : Int32} {r : List Value} (hd : decode I.cc pc = .ok (.lushr, 1)) (kk : J l I (pc + 1) lv (.long (x.toUInt64 >>> (y.toInt64.toUInt64 &&& Int64.toUInt64 63)).toInt64 :: r) M k n out) : J l I pc lv (.int y :: .long x :: r) M k n out :=
  fun D cA ad p e s m args below meth c A locs H ls h => lv_lushr h.hx h.hb hd rfl (kk D cA ad p e s m args below meth c A locs H ls h)
theorem J.lshl {x : Int64} {y : Int32} {r : List Value} (hd : decode I.cc pc = .ok (.lshl, 1)) (kk : J l I (pc + 1) lv (.long (x <<< (y.toInt64 &&& 63)) :: r) M k n out) : J l I pc lv (.int y :: .long x :: r) M k n out :=
  fun D cA ad p e s m args below meth c A locs H ls h => lv_lshl h.hx h.hb hd rfl (kk D cA ad p e s m args below meth c A locs H ls h)
theorem J.lcmp {x y : Int64} {r : List Value} (hd : decode I.cc pc = .ok (.lcmp, 1)) (kk : J l I (pc + 1) lv (.int (lg_cmp x y) :: r) M k n out) : J l I pc lv (.long y :: .long x :: r) M k n out :=
  fun D cA ad p e s m args below meth c A locs H ls h => W.lcmp h.hx h.hb hd (kk D cA ad p e s m args below meth c A locs H ls h)
theorem J.dup {a : Value} {r : List Value} (hd : decode I.cc pc = .ok (.dup, 1)) (ha : a.category = 1) (kk : J l I (pc + 1) lv (a :: a :: r) M k n out) : J l I pc lv (a :: r) M k n out :=
  fun D cA ad p e s m args below meth c A locs H ls h => lv_dup h.hx h.hb hd ((pv_cat ad a).trans ha) (kk D cA ad p e s m args below meth c A locs H ls h)
theorem J.pop {a : Value} {r : List Value} (hd : decode I.cc pc = .ok (.pop, 1)) (ha : a.category = 1) (kk : J l I (pc + 1) lv (r) M k n out) : J l I pc lv (a :: r) M k n out :=
  fun D cA ad p e s m args below meth c A locs H ls h => lv_pop h.hx h.hb hd ((pv_cat ad a).trans ha) (kk D cA ad p e s m args below meth c A locs H ls h)
theorem J.dup_x1 {a b : Value} {r : List Value} (hd : decode I.cc pc = .ok (.dup_x1, 1)) (ha : a.category = 1) (hb : b.category = 1) (kk : J l I (pc + 1) lv (a :: b :: a :: r) M k n out) : J l I pc lv (a :: b :: r) M k n out :=
  fun D cA ad p e s m args below meth c A locs H ls h => lv_dup_x1 h.hx h.hb hd ((pv_cat ad a).trans ha) ((pv_cat ad b).trans hb) (kk D cA ad p e s m args below meth c A locs H ls h)
theorem J.dup_x2 {a b d : Value} {r : List Value} (hd : decode I.cc pc = .ok (.dup_x2, 1)) (ha : a.category = 1) (hb : b.category = 1) (hc : d.category = 1) (kk : J l I (pc + 1) lv (a :: b :: d :: a :: r) M k n out) : J l I pc lv (a :: b :: d :: r) M k n out :=
  fun D cA ad p e s m args below meth c A locs H ls h => lv_dup_x2 h.hx h.hb hd ((pv_cat ad a).trans ha) ((pv_cat ad b).trans hb) ((pv_cat ad d).trans hc) (kk D cA ad p e s m args below meth c A locs H ls h)
theorem J.dup2 {a b : Value} {r : List Value} (hd : decode I.cc pc = .ok (.dup2, 1)) (ha : a.category = 1) (hb : b.category = 1) (kk : J l I (pc + 1) lv (a :: b :: a :: b :: r) M k n out) : J l I pc lv (a :: b :: r) M k n out :=
  fun D cA ad p e s m args below meth c A locs H ls h => lv_dup2_11 h.hx h.hb hd ((pv_cat ad a).trans ha) ((pv_cat ad b).trans hb) (kk D cA ad p e s m args below meth c A locs H ls h)
theorem J.goto {off : Int} {tgt : Nat} (hd : decode I.cc pc = .ok (.goto off, 3)) (ht : (pc : Int) + off = (tgt : Int)) (kk : J l I tgt lv st M k n out) : J l I pc lv st M k n out :=
  fun D cA ad p e s m args below meth c A locs H ls h => lv_goto h.hx h.hb hd ht (kk D cA ad p e s m args below meth c A locs H ls h)
theorem J.if_eq {x : Int32} {off : Int} {tgt : Nat} {r : List Value} (hd : decode I.cc pc = .ok (.ifCond .eq off, 3)) (ht : (pc : Int) + off = (tgt : Int)) (kt : x = 0 → J l I tgt lv r M k n out) (kf : ¬ x = 0 → J l I (pc + 3) lv r M k n out) : J l I pc lv (.int x :: r) M k n out :=
  fun D cA ad p e s m args below meth c A locs H ls h => lv_if_eq h.hx h.hb hd ht (fun q => kt q D cA ad p e s m args below meth c A locs H ls h) (fun q => kf q D cA ad p e s m args below meth c A locs H ls h)
theorem J.icmp_eq {x y : Int32} {off : Int} {tgt : Nat} {r : List Value} (hd : decode I.cc pc = .ok (.if_icmp .eq off, 3)) (ht : (pc : Int) + off = (tgt : Int)) (kt : x = y → J l I tgt lv r M k n out) (kf : ¬ x = y → J l I (pc + 3) lv r M k n out) : J l I pc lv (.int y :: .int x :: r) M k n out :=
  fun D cA ad p e s m args below meth c A locs H ls h => lv_icmp_eq h.hx h.hb hd ht (fun q => kt q D cA ad p e s m args below meth c A locs H ls h) (fun q => kf q D cA ad p e s m args below meth c A locs H ls h)
theorem J.if_ne {x : Int32} {off : Int} {tgt : Nat} {r : List Value} (hd : decode I.cc pc = .ok (.ifCond .ne off, 3)) (ht : (pc : Int) + off = (tgt : Int)) (kt : ¬ x = 0 → J l I tgt lv r M k n out) (kf : x = 0 → J l I (pc + 3) lv r M k n out) : J l I pc lv (.int x :: r) M k n out :=
  fun D cA ad p e s m args below meth c A locs H ls h => lv_if_ne h.hx h.hb hd ht (fun q => kt q D cA ad p e s m args below meth c A locs H ls h) (fun q => kf q D cA ad p e s m args below meth c A locs H ls h)
theorem J.icmp_ne {x y : Int32} {off : Int} {tgt : Nat} {r : List Value} (hd : decode I.cc pc = .ok (.if_icmp .ne off, 3)) (ht : (pc : Int) + off = (tgt : Int)) (kt : ¬ x = y → J l I tgt lv r M k n out) (kf : x = y → J l I (pc + 3) lv r M k n out) : J l I pc lv (.int y :: .int x :: r) M k n out :=
  fun D cA ad p e s m args below meth c A locs H ls h => lv_icmp_ne h.hx h.hb hd ht (fun q => kt q D cA ad p e s m args below meth c A locs H ls h) (fun q => kf q D cA ad p e s m args below meth c A locs H ls h)
theorem J.if_lt {x : Int32} {off : Int} {tgt : Nat} {r : List Value} (hd : decode I.cc pc = .ok (.ifCond .lt off, 3)) (ht : (pc : Int) + off = (tgt : Int)) (kt : x < 0 → J l I tgt lv r M k n out) (kf : ¬ x < 0 → J l I (pc + 3) lv r M k n out) : J l I pc lv (.int x :: r) M k n out :=
  fun D cA ad p e s m args below meth c A locs H ls h => lv_if_lt h.hx h.hb hd ht (fun q => kt q D cA ad p e s m args below meth c A locs H ls h) (fun q => kf q D cA ad p e s m args below meth c A locs H ls h)
theorem J.icmp_lt {x y : Int32} {off : Int} {tgt : Nat} {r : List Value} (hd : decode I.cc pc = .ok (.if_icmp .lt off, 3)) (ht : (pc : Int) + off = (tgt : Int)) (kt : x < y → J l I tgt lv r M k n out) (kf : ¬ x < y → J l I (pc + 3) lv r M k n out) : J l I pc lv (.int y :: .int x :: r) M k n out :=
  fun D cA ad p e s m args below meth c A locs H ls h => lv_icmp_lt h.hx h.hb hd ht (fun q => kt q D cA ad p e s m args below meth c A locs H ls h) (fun q => kf q D cA ad p e s m args below meth c A locs H ls h)
theorem J.if_ge {x : Int32} {off : Int} {tgt : Nat} {r : List Value} (hd : decode I.cc pc = .ok (.ifCond .ge off, 3)) (ht : (pc : Int) + off = (tgt : Int)) (kt : 0 ≤ x → J l I tgt lv r M k n out) (kf : ¬ 0 ≤ x → J l I (pc + 3) lv r M k n out) : J l I pc lv (.int x :: r) M k n out :=
  fun D cA ad p e s m args below meth c A locs H ls h => lv_if_ge h.hx h.hb hd ht (fun q => kt q D cA ad p e s m args below meth c A locs H ls h) (fun q => kf q D cA ad p e s m args below meth c A locs H ls h)
theorem J.icmp_ge {x y : Int32} {off : Int} {tgt : Nat} {r : List Value} (hd : decode I.cc pc = .ok (.if_icmp .ge off, 3)) (ht : (pc : Int) + off = (tgt : Int)) (kt : y ≤ x → J l I tgt lv r M k n out) (kf : ¬ y ≤ x → J l I (pc + 3) lv r M k n out) : J l I pc lv (.int y :: .int x :: r) M k n out :=
  fun D cA ad p e s m args below meth c A locs H ls h => lv_icmp_ge h.hx h.hb hd ht (fun q => kt q D cA ad p e s m args below meth c A locs H ls h) (fun q => kf q D cA ad p e s m args below meth c A locs H ls h)
theorem J.if_gt {x : Int32} {off : Int} {tgt : Nat} {r : List Value} (hd : decode I.cc pc = .ok (.ifCond .gt off, 3)) (ht : (pc : Int) + off = (tgt : Int)) (kt : 0 < x → J l I tgt lv r M k n out) (kf : ¬ 0 < x → J l I (pc + 3) lv r M k n out) : J l I pc lv (.int x :: r) M k n out :=
  fun D cA ad p e s m args below meth c A locs H ls h => lv_if_gt h.hx h.hb hd ht (fun q => kt q D cA ad p e s m args below meth c A locs H ls h) (fun q => kf q D cA ad p e s m args below meth c A locs H ls h)
theorem J.icmp_gt {x y : Int32} {off : Int} {tgt : Nat} {r : List Value} (hd : decode I.cc pc = .ok (.if_icmp .gt off, 3)) (ht : (pc : Int) + off = (tgt : Int)) (kt : y < x → J l I tgt lv r M k n out) (kf : ¬ y < x → J l I (pc + 3) lv r M k n out) : J l I pc lv (.int y :: .int x :: r) M k n out :=
  fun D cA ad p e s m args below meth c A locs H ls h => lv_icmp_gt h.hx h.hb hd ht (fun q => kt q D cA ad p e s m args below meth c A locs H ls h) (fun q => kf q D cA ad p e s m args below meth c A locs H ls h)
theorem J.if_le {x : Int32} {off : Int} {tgt : Nat} {r : List Value} (hd : decode I.cc pc = .ok (.ifCond .le off, 3)) (ht : (pc : Int) + off = (tgt : Int)) (kt : x ≤ 0 → J l I tgt lv r M k n out) (kf : ¬ x ≤ 0 → J l I (pc + 3) lv r M k n out) : J l I pc lv (.int x :: r) M k n out :=
  fun D cA ad p e s m args below meth c A locs H ls h => lv_if_le h.hx h.hb hd ht (fun q => kt q D cA ad p e s m args below meth c A locs H ls h) (fun q => kf q D cA ad p e s m args below meth c A locs H ls h)
theorem J.icmp_le {x y : Int32} {off : Int} {tgt : Nat} {r : List Value} (hd : decode I.cc pc = .ok (.if_icmp .le off, 3)) (ht : (pc : Int) + off = (tgt : Int)) (kt : x ≤ y → J l I tgt lv r M k n out) (kf : ¬ x ≤ y → J l I (pc + 3) lv r M k n out) : J l I pc lv (.int y :: .int x :: r) M k n out :=
  fun D cA ad p e s m args below meth c A locs H ls h => lv_icmp_le h.hx h.hb hd ht (fun q => kt q D cA ad p e s m args below meth c A locs H ls h) (fun q => kf q D cA ad p e s m args below meth c A locs H ls h)
theorem Cx.hK {D : va_G} {cA ad : Nat → Nat} {p : Program} {s : State} {m : MethodId} {args : Array Value} {meth : Method} {c : Code} {A : Nat → Prop} {locs : List Loc} {H : Heap} {ls : Array Slot} (h : Cx I D cA ad p s m args meth c A locs H ls lv M) : va_K D vwCl (ty3 cA) s := h.2.2.2.2.2.2.2.2.2.1
theorem Cx.hP {D : va_G} {cA ad : Nat → Nat} {p : Program} {s : State} {m : MethodId} {args : Array Value} {meth : Method} {c : Code} {A : Nat → Prop} {locs : List Loc} {H : Heap} {ls : Array Slot} (h : Cx I D cA ad p s m args meth c A locs H ls lv M) : va_P D vwCl (pw ad cA M) H := h.2.2.2.2.2.2.2.2.2.2.1
theorem Cx.hD {D : va_G} {cA ad : Nat → Nat} {p : Program} {s : State} {m : MethodId} {args : Array Value} {meth : Method} {c : Code} {A : Nat → Prop} {locs : List Loc} {H : Heap} {ls : Array Slot} (h : Cx I D cA ad p s m args meth c A locs H ls lv M) : va_D A (pw ad cA M) := h.2.2.2.2.2.2.2.2.2.2.2.1
theorem Cx.hS {D : va_G} {cA ad : Nat → Nat} {p : Program} {s : State} {m : MethodId} {args : Array Value} {meth : Method} {c : Code} {A : Nat → Prop} {locs : List Loc} {H : Heap} {ls : Array Slot} (h : Cx I D cA ad p s m args meth c A locs H ls lv M) : va_S A s.heap H locs := h.2.2.2.2.2.2.2.2.2.2.2.2.1
theorem Cx.hA {D : va_G} {cA ad : Nat → Nat} {p : Program} {s : State} {m : MethodId} {args : Array Value} {meth : Method} {c : Code} {A : Nat → Prop} {locs : List Loc} {H : Heap} {ls : Array Slot} (h : Cx I D cA ad p s m args meth c A locs H ls lv M) : ∀ q, s.heap.size ≤ q → A q := h.2.2.2.2.2.2.2.2.2.2.2.2.2.1
theorem Cx.hZ {D : va_G} {cA ad : Nat → Nat} {p : Program} {s : State} {m : MethodId} {args : Array Value} {meth : Method} {c : Code} {A : Nat → Prop} {locs : List Loc} {H : Heap} {ls : Array Slot} (h : Cx I D cA ad p s m args meth c A locs H ls lv M) : ZZ A s s.heap := h.2.2.2.2.2.2.2.2.2.2.2.2.2.2.1
theorem Cx.hw {D : va_G} {cA ad : Nat → Nat} {p : Program} {s : State} {m : MethodId} {args : Array Value} {meth : Method} {c : Code} {A : Nat → Prop} {locs : List Loc} {H : Heap} {ls : Array Slot} (h : Cx I D cA ad p s m args meth c A locs H ls lv M) : NW s := h.2.2.2.2.2.2.2.1
theorem Cx.ho {D : va_G} {cA ad : Nat → Nat} {p : Program} {s : State} {m : MethodId} {args : Array Value} {meth : Method} {c : Code} {A : Nat → Prop} {locs : List Loc} {H : Heap} {ls : Array Slot} (h : Cx I D cA ad p s m args meth c A locs H ls lv M) : s.vm.findClass I.own = some m.cls := h.2.2.2.2.2.2.2.2.1
theorem J.ialoadR {a cell : Nat} {f : Nat → Int32} {i : Int32} {r : List Value} (hd : decode I.cc pc = .ok (.iaload, 1)) (hM : M[a]? = some (.inl (0, cell, .inl f))) (hi : vp_in i cell) (kk : J l I (pc + 1) lv (.int (f i.toNatClampNeg) :: r) M k n out) : J l I pc lv (.int i :: .ref a :: r) M k n out :=
  fun D cA ad p e s m args below meth c A locs H ls h => va_iald h.hx h.hb h.hK h.hP a 0 (pw_at hM) rfl hi hd (kk D cA ad p e s m args below meth c A locs H ls h)
theorem J.baloadR {a cell : Nat} {f : Nat → Int32} {i : Int32} {r : List Value} (hd : decode I.cc pc = .ok (.baload, 1)) (hM : M[a]? = some (.inl (1, cell, .inl f))) (hi : vp_in i cell) (kk : J l I (pc + 1) lv (.int (f i.toNatClampNeg) :: r) M k n out) : J l I pc lv (.int i :: .ref a :: r) M k n out :=
  fun D cA ad p e s m args below meth c A locs H ls h => va_zald h.hx h.hb h.hK h.hP a 1 (pw_at hM) rfl hi hd (kk D cA ad p e s m args below meth c A locs H ls h)
theorem J.laloadR {a cell : Nat} {f : Nat → Int64} {i : Int32} {r : List Value} (hd : decode I.cc pc = .ok (.laload, 1)) (hM : M[a]? = some (.inl (2, cell, .inr (.inl f)))) (hi : vp_in i cell) (kk : J l I (pc + 1) lv (.long (f i.toNatClampNeg) :: r) M k n out) : J l I pc lv (.int i :: .ref a :: r) M k n out :=
  fun D cA ad p e s m args below meth c A locs H ls h => va_lald h.hx h.hb h.hK h.hP a 2 (pw_at hM) rfl hi hd (kk D cA ad p e s m args below meth c A locs H ls h)
theorem jq_len {D : va_G} {cA ad : Nat → Nat} {A : Nat → Prop} {mc ms : Nat} {below : List Frame} {args : Array Value} {s : State} {a : Nat} {e : va_E} : JQ D cA ad (M.set a e).length A mc ms below args s out = JQ D cA ad M.length A mc ms below args s out := by rw [List.length_set]
theorem J.iastoreR {a cell : Nat} {f : Nat → Int32} {i x : Int32} {r : List Value} (hd : decode I.cc pc = .ok (.iastore, 1)) (hM : M[a]? = some (.inl (0, cell, .inl f))) (hi : vp_in i cell) (kk : J l I (pc + 1) lv r (M.set a (.inl (0, cell, .inl (upd f i.toNatClampNeg x)))) k n out) : J l I pc lv (.int x :: .int i :: .ref a :: r) M k n out := by
  intro D cA ad p e s m args below meth c A locs H ls h
  refine va_iast h.hx h.hb h.hK h.hP h.hD h.hS a 0 (pw_at hM) rfl hi hd (fun H1 locs1 hP hD hS => ?_)
  have e1 := pw_set (ad := ad) (cA := cA) (M := M) (k := a) (e := .inl (0, cell, .inl (upd f i.toNatClampNeg x)))
  have := kk D cA ad p e s m args below meth c A locs1 H1 ls (h.hp (e1 ▸ hP) (e1 ▸ hD) hS)
  rw [jq_len] at this
  exact this
theorem J.bastoreR {a cell : Nat} {f : Nat → Int32} {i x : Int32} {r : List Value} (hd : decode I.cc pc = .ok (.bastore, 1)) (hM : M[a]? = some (.inl (1, cell, .inl f))) (hi : vp_in i cell) (kk : J l I (pc + 1) lv r (M.set a (.inl (1, cell, .inl (upd f i.toNatClampNeg (vp_nar .boolean x))))) k n out) : J l I pc lv (.int x :: .int i :: .ref a :: r) M k n out := by
  intro D cA ad p e s m args below meth c A locs H ls h
  refine va_zast h.hx h.hb h.hK h.hP h.hD h.hS a 1 (pw_at hM) rfl hi hd (fun H1 locs1 hP hD hS => ?_)
  have e1 := pw_set (ad := ad) (cA := cA) (M := M) (k := a) (e := .inl (1, cell, .inl (upd f i.toNatClampNeg (vp_nar .boolean x))))
  have := kk D cA ad p e s m args below meth c A locs1 H1 ls (h.hp (e1 ▸ hP) (e1 ▸ hD) hS)
  rw [jq_len] at this
  exact this
theorem J.lastoreR {a cell : Nat} {f : Nat → Int64} {i : Int32} {x : Int64} {r : List Value} (hd : decode I.cc pc = .ok (.lastore, 1)) (hM : M[a]? = some (.inl (2, cell, .inr (.inl f)))) (hi : vp_in i cell) (kk : J l I (pc + 1) lv r (M.set a (.inl (2, cell, .inr (.inl (vp_updL f i.toNatClampNeg x))))) k n out) : J l I pc lv (.long x :: .int i :: .ref a :: r) M k n out := by
  intro D cA ad p e s m args below meth c A locs H ls h
  refine va_last h.hx h.hb h.hK h.hP h.hD h.hS a 2 (pw_at hM) rfl hi hd (fun H1 locs1 hP hD hS => ?_)
  have e1 := pw_set (ad := ad) (cA := cA) (M := M) (k := a) (e := .inl (2, cell, .inr (.inl (vp_updL f i.toNatClampNeg x))))
  have := kk D cA ad p e s m args below meth c A locs1 H1 ls (h.hp (e1 ▸ hP) (e1 ▸ hD) hS)
  rw [jq_len] at this
  exact this
theorem J.arraylength {a t : Nat} {x : vp_A} {v : Int32} {r : List Value} (hd : decode I.cc pc = .ok (.arraylength, 1)) (hM : M[a]? = some (.inl (t, x))) (ht : t < 3) (hv : Int32.ofNat x.1 = v) (kk : J l I (pc + 1) lv (.int v :: r) M k n out) : J l I pc lv (.ref a :: r) M k n out := by
  intro D cA ad p e s m args below meth c A locs H ls h
  have : ∃ ty, (ty3 cA)[t]? = some (cA t, ty) := by
    rcases (show t = 0 ∨ t = 1 ∨ t = 2 by omega) with rfl | rfl | rfl <;> exact ⟨_, rfl⟩
  obtain ⟨ty, ht⟩ := this
  exact va_alen h.hx h.hb h.hK h.hP a t (pw_at hM) ht hv hd (kk D cA ad p e s m args below meth c A locs H ls h)
/-- what a field access links -/
def FL (own : String) (index ci f : Nat) : Prop := ∃ (C : String) (T : u_T) (N : Nat) (ref : String), vwCl[ci]? = some (C, T, N) ∧ f < N ∧ (∀ w ∈ u_ws C T N, w ∈ lw_tbl ∧ okw w = true) ∧ Cond.fieldLink own index ref (T f).2.1 (T f).2.2.1 ∈ lw_tbl ∧ (T f).1 = ref
theorem J.getfield {a index ci f : Nat} {fs : List Value} {v : Value} {r : List Value} (hd : decode I.cc pc = .ok (.getfield index, 3)) (hF : FL I.own index ci f) (hM : M[a]? = some (.inr (ci, fs))) (hv : fs[f]? = some v) (kk : J l I (pc + 3) lv (v :: r) M k n out) : J l I pc lv (.ref a :: r) M k n out := by
  intro D cA ad p e s m args below meth c A locs H ls h
  obtain ⟨C, T, N, ref, h1, h2, h3, h4, h5⟩ := hF
  exact va_get (D := D) (ci := ci) (v := pv ad v) (C := C) (T := T) (N := N) h.hx h.hb (Ts := u_ws C T N) (fun w hw => h.hw.at (h3 w hw).1 (h3 w hw).2 args) (fun w hw => hw) h.ho h.hK h.hP a (pw_at hM) h1 f h2 (h.hw.at h4 rfl args) (fun x hx => by rw [← h5]; exact hx) (by rw [List.getElem?_map, hv]; rfl) hd (kk D cA ad p e s m args below meth c A locs H ls h)
/-- .. and a store -/
def FS (own nm : String) (index ci f : Nat) (ty : FieldType) : Prop := ∃ (C : String) (T : u_T) (N : Nat) (ref : String) (ty0 : Nat → FieldType), vwCl[ci]? = some (C, T, N) ∧ f < N ∧ (∀ w ∈ u_ws C T N, w ∈ lw_tbl ∧ okw w = true) ∧ Cond.fieldLink own index ref (T f).2.1 (T f).2.2.1 ∈ lw_tbl ∧ (T f).1 = ref ∧
  (∀ j, j < N → parseFieldDescriptor (T j).2.2.1 = some (ty0 j)) ∧ (∀ a, a < N → ∀ b, b < N → a ≠ b → (T a).2.1 ≠ (T b).2.1) ∧ ty0 f = ty ∧ ((T f).2.2.2 = false ∨ ((T f).2.2.2 = true ∧ nm = "<init>" ∧ (T f).1 = own))
theorem Cx.hnm {D : va_G} {cA ad : Nat → Nat} {p : Program} {s : State} {m : MethodId} {args : Array Value} {meth : Method} {c : Code} {A : Nat → Prop} {locs : List Loc} {H : Heap} {ls : Array Slot} (h : Cx I D cA ad p s m args meth c A locs H ls lv M) : meth.name = I.nm := h.2.2.2.2.2.1
theorem pv_narrow {ad : Nat → Nat} {ty : FieldType} {v : Value} (h : narrow ty v = v) : narrow ty (pv ad v) = pv ad v := by
  cases v <;> first | exact h | (cases ty <;> first | rfl | simp_all [narrow, pv])
theorem pv_fits {ad : Nat → Nat} {ty : FieldType} {v : Value} (h : fits ty v = true) : fits ty (pv ad v) = true := by
  cases v <;> first | exact h | (cases ty <;> simp_all [fits, pv])
theorem J.putfield {a index ci f : Nat} {ty : FieldType} {fs : List Value} {v : Value} {r : List Value} (hd : decode I.cc pc = .ok (.putfield index, 3)) (hF : FS I.own I.nm index ci f ty) (hM : M[a]? = some (.inr (ci, fs))) (hl : f < fs.length) (hn : narrow ty v = v) (hf : fits ty v = true) (kk : J l I (pc + 3) lv r (M.set a (.inr (ci, fs.set f v))) k n out) : J l I pc lv (v :: .ref a :: r) M k n out := by
  intro D cA ad p e s m args below meth c A locs H ls h
  obtain ⟨C, T, N, ref, ty0, h1, h2, h3, h4, h5, h6, h7, h8, h9⟩ := hF
  have e1 := pw_set (ad := ad) (cA := cA) (M := M) (k := a) (e := .inr (ci, fs.set f v))
  have e2 : pe ad cA (.inr (ci, fs.set f v)) = .inr (ci, (fs.map (pv ad)).set f (pv ad v)) := by simp [pe, List.map_set]
  rw [e2] at e1
  have key : ∀ (H1 : Heap) (locs1 : List Loc), va_P D vwCl ((pw ad cA M).set a (ad a, .inr (ci, (fs.map (pv ad)).set f (pv ad v)))) H1 → va_D A ((pw ad cA M).set a (ad a, .inr (ci, (fs.map (pv ad)).set f (pv ad v)))) → va_S A s.heap H1 locs1 →
      W p l e I.rm s m args below meth c H1 locs1 k n (JQ D cA ad M.length A I.mc I.ms below args s out) (F0 m (pc + 3) ls (r.map (pv ad))) := by
    intro H1 locs1 hP hD hS
    have := kk D cA ad p e s m args below meth c A locs1 H1 ls (h.hp (e1 ▸ hP) (e1 ▸ hD) hS)
    rw [jq_len] at this
    exact this
  rcases h9 with h9 | ⟨h9, h10, h11⟩
  · exact va_put (D := D) (ci := ci) (v := pv ad v) (ty := ty) (C := C) (T := T) (N := N) h.hx h.hb (Ts := u_ws C T N) (fun w hw => h.hw.at (h3 w hw).1 (h3 w hw).2 args) (fun w hw => hw) ty0 h6 h7 h.ho h.hK h.hP h.hD h.hS a (pw_at hM) h1 f h2 (h.hw.at h4 rfl args) (fun x hx => by rw [← h5]; exact hx) h9 (by rw [h6 f h2, h8]) (pv_narrow hn) (pv_fits hf) (by rw [List.length_map]; exact hl) hd key
  · exact va_putF (D := D) (ci := ci) (v := pv ad v) (ty := ty) (C := C) (T := T) (N := N) h.hx h.hb (Ts := u_ws C T N) (fun w hw => h.hw.at (h3 w hw).1 (h3 w hw).2 args) (fun w hw => hw) ty0 h6 h7 h.ho h.hK h.hP h.hD h.hS a (pw_at hM) h1 f h2 (h.hw.at h4 rfl args) (fun x hx => by rw [← h5]; exact hx) h9 (h.hnm.trans h10) h11 (by rw [h6 f h2, h8]) (pv_narrow hn) (pv_fits hf) (by rw [List.length_map]; exact hl) hd key
/-- ends -/
theorem Qr.mk' {D : va_G} {cA ad : Nat → Nat} {p : Program} {s : State} {m : MethodId} {args : Array Value} {meth : Method} {c : Code} {A : Nat → Prop} {locs : List Loc} {H : Heap} {ls : Array Slot} {e : Env} {below : List Frame} {v : Option Value} (h : Cx I D cA ad p s m args meth c A locs H ls lv M) (t : State) (ht : t.heap = H) (hW : s.WarmedH t.vm) : Qr D cA ad M.length A (v, M) args s (.returned (v.map (pv ad))) t :=
  ⟨⟨ad, fun _ _ => rfl, fun _ => rfl, Nat.le_refl _, rfl, by rw [ht]; exact h.hP, va_K.moved hW.alike h.hK, h.hD⟩, h.hS.F ht⟩
theorem J.ireturn {v : Int32} (hd : decode I.cc pc = .ok (.ireturn, 1)) (hr : I.ret = some .int) (hk : k ≤ I.mc) (hn : n ≤ I.ms) : J l I pc lv [.int v] M k n (.inl (some (.int v), M)) := by
  intro D cA ad p e s m args below meth c A locs H ls h
  refine W.widen hk hn ?_
  exact W.iret h.hx h.hb (h.2.2.2.1.trans hr) (fun t ht hW => Qr.mk' (e := e) (below := below) (v := some (.int v)) h t ht hW) h.hS.2.2 hd h.2.2.2.2.1
theorem J.zreturn {v : Int32} (hd : decode I.cc pc = .ok (.ireturn, 1)) (hr : I.ret = some .boolean) (hv : narrow .boolean (.int v) = .int v) (hk : k ≤ I.mc) (hn : n ≤ I.ms) : J l I pc lv [.int v] M k n (.inl (some (.int v), M)) := by
  intro D cA ad p e s m args below meth c A locs H ls h
  refine W.widen hk hn ?_
  exact W.zret h.hx h.hb (h.2.2.2.1.trans hr) hv (fun t ht hW => Qr.mk' (e := e) (below := below) (v := some (.int v)) h t ht hW) h.hS.2.2 hd h.2.2.2.2.1
theorem J.vreturn (hd : decode I.cc pc = .ok (.return_, 1)) (hr : I.ret = none) (hk : k ≤ I.mc) (hn : n ≤ I.ms) : J l I pc lv [] M k n (.inl (none, M)) := by
  intro D cA ad p e s m args below meth c A locs H ls h
  refine W.widen hk hn ?_
  exact W.vret h.hx h.hb (h.2.2.2.1.trans hr) (fun t ht hW => Qr.mk' (e := e) (below := below) (v := none) h t ht hW) h.hS.2.2 hd h.2.2.2.2.1
end RULES
end
section
section CALLS
variable {l : Launch} {I I' : MI} {pc : Nat} {lv : List (Nat × Value)} {M : List va_E} {k n : Nat} {out : Out}
/-- what a callee may change is what the caller may -/
theorem free_in {D : va_G} {cA ad : Nat → Nat} {p : Program} {s : State} {m : MethodId} {args : Array Value} {meth : Method} {c : Code} {A : Nat → Prop} {locs : List Loc} {H : Heap} {ls : Array Slot} (h : Cx I D cA ad p s m args meth c A locs H ls lv M) : ∀ q, va_A (pw ad cA M) H.size q → A q := by
  intro q hq
  rcases hq with ⟨j, e, hj⟩ | hq
  · exact h.hD.2 j (q, e) hj
  · exact h.hA q (Nat.le_trans h.hS.1 hq)
theorem ZZ_here {D : va_G} {cA ad : Nat → Nat} {p : Program} {s : State} {m : MethodId} {args : Array Value} {meth : Method} {c : Code} {A : Nat → Prop} {locs : List Loc} {H : Heap} {ls : Array Slot} (h : Cx I D cA ad p s m args meth c A locs H ls lv M) : ZZ (va_A (pw ad cA M) H.size) s H :=
  (h.hZ.kept h.hS.1 h.hS.2.1).narrow (fun q _ hq => free_in h q hq)
/-- the start of a callee, from here -/
theorem Ps_here {D : va_G} {cA ad : Nat → Nat} {p : Program} {s : State} {m : MethodId} {args : Array Value} {meth : Method} {c : Code} {A : Nat → Prop} {locs : List Loc} {H : Heap} {ls : Array Slot} (h : Cx I D cA ad p s m args meth c A locs H ls lv M) (as : List Value) :
    FrameBlind (Ps D cA ad as M H.size) ∧ ∀ U : State, U.heap = H → s.WarmedH U.vm → Ps D cA ad as M H.size (as.map (pv ad)).toArray U := by
  refine ⟨fun a U g mk q => ?_, fun U hU hW => ⟨rfl, by rw [hU], by rw [hU]; exact h.hP, va_K.moved hW.alike h.hK, h.hD.weaken (fun _ _ _ _ => trivial), by rw [hU]; exact (ZZ_here h).moved hW.alike, h.hw.moved hW⟩⟩
  obtain ⟨q0, q1, qP, qK, qD, qZ, qN⟩ := q
  exact ⟨q0, q1, qP, va_K.moved (u := U) (U := U.calling g mk a) (Vm.Alike.refl U.vm) qK, qD, qZ.moved (U := U.calling g mk a) (Vm.Alike.refl U.vm), qN.moved (U := U.calling g mk a) (State.WarmedH.refl U)⟩
/-- behind a call that returned -/
theorem J.behind {rest : List Value} {r : Option Value} {M' : List va_E} {st0 : List Value}
    (hr : ∀ (D : va_G) (cA ad : Nat → Nat) (p : Program) (e : Env) (s : State) (m : MethodId) (args : Array Value) (below : List Frame) (meth : Method) (c : Code) (A : Nat → Prop) (locs : List Loc) (H : Heap) (ls : Array Slot), Cx I D cA ad p s m args meth c A locs H ls lv M →
      ∃ a, va_Run p l e I.rm s m args below meth c H locs k n I'.mc I'.ms (F0 m pc ls (st0.map (pv ad))) (rest.map (pv ad)) (Qr D cA ad M.length (va_A (pw ad cA M) H.size) (r, M') a) (va_A (pw ad cA M) H.size))
    (hok : M'.length = M.length ∨ (M.length ≤ M'.length ∧ lv.all (fun q => pok M.length q.2) = true ∧ rest.all (pok M.length) = true))
    (kk : J l I (pc + 3) lv (r.toList ++ rest) M' (k + I'.mc) (n + I'.ms) out) : J l I pc lv st0 M k n out := by
  intro D cA ad p e s m args below meth c A locs H ls h T hT X
  obtain ⟨a, hrun⟩ := hr D cA ad p e s m args below meth c A locs H ls h
  obtain ⟨v, st₀, t, T', L, h0, X', hL, e1, e2, ⟨⟨ad', g1, g2, g3, g4, g5, g6, g7⟩, hF⟩, st⟩ := hrun T hT X
  have hfr := free_in h
  rw [← e1] at g5
  have hSz : H.size ≤ T'.heap.size := by rw [e1, ← h0]; exact hF.1
  have hk1 : ∀ q : Nat, q < H.size → ¬ A q → T'.heap[q]? = H[q]? := by
    intro q g h9
    rw [e1, ← h0]
    exact hF.2 q (by rw [h0]; exact g) (fun z => h9 (hfr q z))
  have hS' : va_S A s.heap T'.heap (locs ++ L) := by
    refine ⟨Nat.le_trans h.hS.1 hSz, fun q h1 h2 => (hk1 q (Nat.lt_of_lt_of_le h1 h.hS.1) h2).trans (h.hS.2.1 q h1 h2), fun q hq => ?_⟩
    rcases List.mem_append.mp hq with z | z
    · exact h.hS.2.2 q z
    · exact hfr _ (hL q z)
  have hD' : va_D A (pw ad' cA M') := g7.weaken (fun j q _ hq => hfr _ hq)
  have hv : v = r.map (pv ad') := Outcome.returned.inj g4
  have key : lv.map (fun q => (q.1, pv ad' q.2)) = lv.map (fun q => (q.1, pv ad q.2)) ∧ rest.map (pv ad') = rest.map (pv ad) := by
    rcases hok with ho | ⟨-, ho, hp⟩
    · rw [g2 ho]; exact ⟨rfl, rfl⟩
    · refine ⟨List.map_congr_left fun q hq => ?_, pv_eqL g1 hp⟩
      rw [pv_eq g1 (List.all_eq_true.mp ho q hq)]
  obtain ⟨a1, a2, a3, a4, a5, a6, a7, a8, a9, a10, -, -, -, a14, a15, a16⟩ := h
  have hCx : Cx I D cA ad' p s m args meth c A (locs ++ L) T'.heap ls lv M' := ⟨a1, a2, a3, a4, a5, a6, a7, a8, a9, a10, g5, hD', hS', a14, a15, by rw [key.1]; exact a16⟩
  obtain ⟨t2, b1, b2⟩ := kk D cA ad' p e s m args below meth c A (locs ++ L) T'.heap ls hCx T' rfl X'
  refine ⟨t2, st t2 ?_, ?_⟩
  · have : ((r.toList ++ rest).map (pv ad')) = v.toList ++ rest.map (pv ad) := by
      rw [List.map_append, key.2, hv]; cases r <;> rfl
    rw [this] at b1
    exact b1
  · cases out with
    | inl r2 =>
      obtain ⟨o, c1, c2, ⟨⟨ad2, d1, d2, d3, d4⟩, c4⟩, c5⟩ := b2
      refine ⟨o, c1, c2, ⟨⟨ad2, fun i hi => (d1 i (Nat.lt_of_lt_of_le hi g3)).trans (g1 i hi), fun hz => ?_, Nat.le_trans g3 d3, d4⟩, c4⟩, c5⟩
      have : M'.length = M.length := Nat.le_antisymm (Nat.le_trans d3 (Nat.le_of_eq hz)) g3
      rw [d2 (hz.trans this.symm), g2 this]
    | inr r2 =>
      obtain ⟨o, c1, c2, ⟨ad2, d1, d2, d3, d4⟩, c4⟩ := b2
      refine ⟨o, c1, c2, ⟨ad2, fun i hi => (d1 i (Nat.lt_of_lt_of_le hi g3)).trans (g1 i hi), fun hz => ?_, Nat.le_trans g3 d3, d4⟩, c4⟩
      have : M'.length = M.length := Nat.le_antisymm (Nat.le_trans d3 (Nat.le_of_eq hz)) g3
      rw [d2 (hz.trans this.symm), g2 this]
/-- what a call links: the callee's own words, its room within the caller's -/
def CB (I I' : MI) (na : Nat) : Prop := I'.rm.cells = I'.mc ∧ I'.rm.slots = I'.ms ∧ I'.rm.frames + 1 ≤ I.rm.frames ∧ 8 + (I'.nL + 11) + I'.rm.locals ≤ I.rm.locals ∧ I'.ws = [Cond.code I'.y I'.cc I'.nL I'.ret] ∧ Cond.code I'.y I'.cc I'.nL I'.ret ∈ lw_tbl ∧ Cond.initialized I'.y.cls ∈ lw_tbl ∧ (I'.y.cls ≠ "java/lang/invoke/MethodHandle" ∧ I'.y.cls ≠ "java/lang/invoke/VarHandle") ∧ (parseMethodDescriptor I'.y.desc).map (fun d => d.parameters.length) = some na
theorem CB.ws {na : Nat} (h : CB I I' na) {s : State} (hN : NW s) : ∀ w ∈ I'.ws, ∀ (a' : Array Value) (U : State), s.WarmedH U.vm → w.before a' U = true := by
  intro w hw a' U hW
  rw [h.2.2.2.2.1, List.mem_singleton] at hw
  subst hw
  exact hN.1 U a' hW _ h.2.2.2.2.2.1 rfl
theorem CB.arity {na : Nat} (h : CB I I' na) : ∀ sig, parseMethodDescriptor I'.y.desc = some sig → na = sig.parameters.length := by
  intro sig hs
  have := h.2.2.2.2.2.2.2.2
  rw [hs] at this
  exact (Option.some.inj this).symm
theorem CB.mem {na : Nat} (h : CB I I' na) : Cond.code I'.y I'.cc I'.nL I'.ret ∈ I'.ws := by rw [h.2.2.2.2.1]; exact List.mem_singleton_self _
theorem CB.to {na index : Nat} (h : CB I I' na) {s : State} (hN : NW s) (args : Array Value) (hl : Cond.methodLink I.own index I'.y ∈ lw_tbl) : CallB I.rm s args I.own index I'.y I'.cc I'.nL I'.ret I'.ws I'.rm I'.mc I'.ms na :=
  ⟨h.1, h.2.1, h.2.2.1, h.2.2.2.1, h.ws hN, h.mem, hN.at h.2.2.2.2.2.1 rfl args, hN.at h.2.2.2.2.2.2.1 rfl args, h.2.2.2.2.2.2.2.1, h.arity, hN.at hl rfl args⟩
def CallV (I I' : MI) (C : String) (index : Nat) (na : Nat) : Prop := CB I I' na ∧ Cond.methodLink I.own index I'.y ∈ lw_tbl ∧ Cond.instanceMethod I'.y ∈ lw_tbl ∧ Cond.selects C I'.y I'.y ∈ lw_tbl
def CallS (I I' : MI) (index : Nat) (na : Nat) : Prop := CB I I' na ∧ Cond.methodLink I.own index I'.y ∈ lw_tbl ∧ Cond.static I'.y ∈ lw_tbl
def CallSN (I I' : MI) (index : Nat) (na : Nat) (host : String) : Prop := CB I I' na ∧ Cond.methodLinkNest I.own index I'.y host ∈ lw_tbl ∧ Cond.static I'.y ∈ lw_tbl
def CallI (I I' : MI) (index : Nat) (na : Nat) : Prop := CB I I' na ∧ Cond.methodLink I.own index I'.y ∈ lw_tbl ∧ I'.y.name = "<init>" ∧ Cond.instanceMethod I'.y ∈ lw_tbl ∧ I'.ret = none
/-- words under a call -/
def wsum (r : List Value) : Nat := (r.map fun v => v.category).sum
theorem wsum_pv (ad : Nat → Nat) (r : List Value) : ((r.map (pv ad)).map fun v => v.category).sum = wsum r := by
  unfold wsum
  rw [List.map_map]
  congr 1
  exact List.map_congr_left fun v _ => pv_cat ad v
theorem map_rev (ad : Nat → Nat) (as rest : List Value) : (as.reverse ++ rest).map (pv ad) = (as.map (pv ad)).reverse ++ rest.map (pv ad) := by simp
theorem J.invokestatic {index na : Nat} {as rest : List Value} {r : Option Value} {M' : List va_E} (hC : Con l I' as M (.inl (r, M'))) (hc : CallS I I' index na) (hd : decode I.cc pc = .ok (.invokestatic index, 3)) (hna : as.length = na) (hw : wsum rest ≤ 8) (hf : k + I'.mc ≤ I.rm.cells ∧ n + I'.ms ≤ I.rm.slots)
    (hok : M'.length = M.length ∨ (M.length ≤ M'.length ∧ lv.all (fun q => pok M.length q.2) = true ∧ rest.all (pok M.length) = true))
    (kk : J l I (pc + 3) lv (r.toList ++ rest) M' (k + I'.mc) (n + I'.ms) out) : J l I pc lv (as.reverse ++ rest) M k n out := by
  refine J.behind (I' := I') (rest := rest) (r := r) (M' := M') (fun D cA ad p e s m args below meth c A locs H ls h => ⟨(as.map (pv ad)).toArray, ?_⟩) hok kk
  exact va_runS (As := as.map (pv ad)) (rest := rest.map (pv ad)) (Ts := []) ⟨h.hx, h.hb, h.2.2.1, h.ho, fun _ hw => nomatch hw⟩ (hC D cA ad H.size) ⟨hc.1.to h.hw args hc.2.1, h.hw.at hc.2.2 rfl args⟩ (Ps_here h as) rfl (by rw [List.length_map]; exact hna) h.hl.1 (map_rev ad as rest) (by show 2 * 0 + _ ≤ 8; rw [wsum_pv]; omega) hd hf
theorem J.invokestaticN {index na : Nat} {host : String} {as rest : List Value} {r : Option Value} {M' : List va_E} (hC : Con l I' as M (.inl (r, M'))) (hc : CallSN I I' index na host) (hd : decode I.cc pc = .ok (.invokestatic index, 3)) (hna : as.length = na) (hw : wsum rest ≤ 8) (hf : k + I'.mc ≤ I.rm.cells ∧ n + I'.ms ≤ I.rm.slots)
    (hok : M'.length = M.length ∨ (M.length ≤ M'.length ∧ lv.all (fun q => pok M.length q.2) = true ∧ rest.all (pok M.length) = true))
    (kk : J l I (pc + 3) lv (r.toList ++ rest) M' (k + I'.mc) (n + I'.ms) out) : J l I pc lv (as.reverse ++ rest) M k n out := by
  refine J.behind (I' := I') (rest := rest) (r := r) (M' := M') (fun D cA ad p e s m args below meth c A locs H ls h => ⟨(as.map (pv ad)).toArray, ?_⟩) hok kk
  have hb := hc.1
  exact va_runSN (As := as.map (pv ad)) (rest := rest.map (pv ad)) (host := host) (Ts := []) ⟨h.hx, h.hb, h.2.2.1, h.ho, fun _ hw => nomatch hw⟩ (hC D cA ad H.size) ⟨⟨⟨hb.1, hb.2.1, hb.2.2.1, hb.2.2.2.1, hb.ws h.hw, hb.mem⟩, h.hw.at hb.2.2.2.2.2.1 rfl args, h.hw.at hb.2.2.2.2.2.2.1 rfl args, hb.2.2.2.2.2.2.2.1, hb.arity, h.hw.at hc.2.1 rfl args⟩, h.hw.at hc.2.2 rfl args, trivial⟩ (Ps_here h as) rfl (by rw [List.length_map]; exact hna) h.hl.1 (map_rev ad as rest) (by show 2 * 0 + _ ≤ 8; rw [wsum_pv]; omega) hd hf
theorem J.invokevirtual {index na b ci : Nat} {fs : List Value} {C : String} {T : u_T} {N : Nat} {as rest : List Value} {r : Option Value} {M' : List va_E} (hC : Con l I' (.ref b :: as) M (.inl (r, M'))) (hc : CallV I I' C index na) (hd : decode I.cc pc = .ok (.invokevirtual index, 3)) (hM : M[b]? = some (.inr (ci, fs))) (hcl : vwCl[ci]? = some (C, T, N)) (hna : as.length = na) (hw : wsum rest ≤ 8) (hf : k + I'.mc ≤ I.rm.cells ∧ n + I'.ms ≤ I.rm.slots)
    (hok : M'.length = M.length ∨ (M.length ≤ M'.length ∧ lv.all (fun q => pok M.length q.2) = true ∧ rest.all (pok M.length) = true))
    (kk : J l I (pc + 3) lv (r.toList ++ rest) M' (k + I'.mc) (n + I'.ms) out) : J l I pc lv (as.reverse ++ .ref b :: rest) M k n out := by
  refine J.behind (I' := I') (rest := rest) (r := r) (M' := M') (fun D cA ad p e s m args below meth c A locs H ls h => ⟨((Value.ref b :: as).map (pv ad)).toArray, ?_⟩) hok kk
  obtain ⟨p1, p2⟩ := Ps_here h (.ref b :: as)
  exact va_runV (As := as.map (pv ad)) (rest := rest.map (pv ad)) (b := ad b) (C := C) (Ts := []) ⟨h.hx, h.hb, h.2.2.1, h.ho, fun _ hw => nomatch hw⟩ (hC D cA ad H.size) ⟨hc.1.to h.hw args hc.2.1, h.hw.at hc.2.2.1 rfl args, h.hw.at hc.2.2.2 rfl args⟩ ⟨p1, va_recv h.hK h.hP hcl (pw_at hM), p2⟩ rfl (by rw [List.length_map]; exact hna) h.hl.1 (map_rev ad as (.ref b :: rest)) (by show 2 * 0 + _ ≤ 8; rw [wsum_pv]; omega) hd hf
theorem J.invokespecial {index na b : Nat} {as rest : List Value} {r : Option Value} {M' : List va_E} (hC : Con l I' (.ref b :: as) M (.inl (r, M'))) (hc : CallI I I' index na) (hd : decode I.cc pc = .ok (.invokespecial index, 3)) (hna : as.length = na) (hw : wsum rest ≤ 8) (hf : k + I'.mc ≤ I.rm.cells ∧ n + I'.ms ≤ I.rm.slots)
    (hok : M'.length = M.length ∨ (M.length ≤ M'.length ∧ lv.all (fun q => pok M.length q.2) = true ∧ rest.all (pok M.length) = true))
    (kk : J l I (pc + 3) lv (r.toList ++ rest) M' (k + I'.mc) (n + I'.ms) out) : J l I pc lv (as.reverse ++ .ref b :: rest) M k n out := by
  refine J.behind (I' := I') (rest := rest) (r := r) (M' := M') (fun D cA ad p e s m args below meth c A locs H ls h => ⟨((Value.ref b :: as).map (pv ad)).toArray, ?_⟩) hok kk
  obtain ⟨p1, p2⟩ := Ps_here h (.ref b :: as)
  exact va_runI (As := as.map (pv ad)) (rest := rest.map (pv ad)) (b := ad b) (Ts := []) ⟨h.hx, h.hb, h.2.2.1, h.ho, fun _ hw => nomatch hw⟩ (hC D cA ad H.size) ⟨hc.2.2.2.2 ▸ hc.1.to h.hw args hc.2.1, hc.2.2.1, h.hw.at hc.2.2.2.1 rfl args⟩ ⟨p1, p2⟩ rfl (by rw [List.length_map]; exact hna) h.hl.1 (map_rev ad as (.ref b :: rest)) (by show 2 * 0 + _ ≤ 8; rw [wsum_pv]; omega) hd hf
theorem args_map (ad : Nat → Nat) : ∀ (as : List Value) (i : Nat), lv_args i (as.map (pv ad)) = (lv_args i as).map (fun q => (q.1, pv ad q.2))
  | [], _ => rfl
  | v :: vs, i => by
    simp only [List.map_cons, lv_args, pv_cat]
    rw [args_map ad vs]
theorem sl_len (ad : Nat → Nat) : ∀ (as : List Value), (lg_sl (as.map (pv ad))).length = (lg_sl as).length
  | [] => rfl
  | v :: vs => by
    have ih := sl_len ad vs
    simp only [lg_sl, List.map_cons, List.flatMap_cons, List.length_append, pv_cat] at ih ⊢
    rw [ih]
    split <;> rfl
/-- a method's body begins -/
theorem Cx.begin {as : List Value} {cc : ByteArray} {maxL : Nat} {ret : Option FieldType} {S : Spec} (hS0 : S = headSpec I.ws I.rm) (hc1 : cc = I.cc) (hc2 : maxL = I.nL) (hc3 : ret = I.ret) (hw : I.ws = [Cond.code I.y I.cc I.nL I.ret]) (ho : I.own = I.y.cls) (hnm : I.nm = I.y.name) (htab : I.tab = []) (hlen : (lg_sl as).length ≤ I.nL)
    {D : va_G} {cA ad : Nat → Nat} {sz : Nat} {p : Program} {e : Env} {s : State} {m : MethodId} {args : Array Value} {below : List Frame} {meth : Method} {c : Code} {s₁ : State} (B : BodyLoose p l I.y S cc maxL ret e s m args below meth c s₁) (hml : c.maxLocals = maxL) (hv : Ps D cA ad as M sz args s) :
    ∃ ls, entryFrame m args maxL = F0 m 0 ls [] ∧ Cx I D cA ad p s m args meth c (va_A (pw ad cA M) sz) [] s.heap ls (lv_args 0 as) M := by
  subst hc1 hc2 hc3 hS0
  obtain ⟨hargs, hsz, hP, hK, hD0, hZ, hN⟩ := hv
  have hts := atoms_spec (ws := I.ws) B.pre
  have htb : c.exceptionTable.toList = [] := by
    obtain ⟨meth9, c9, h1, h2, -, -, -, -, h7, -⟩ := Cond.code_spec B.named (hts _ (by rw [hw]; exact List.mem_cons_self))
    cases Option.some.inj (h1.symm.trans B.method)
    cases Option.some.inj (h2.symm.trans (Stand.of_body B).code)
    rw [Array.isEmpty_iff.mp h7]
  have hl := lv_entry (as.map (pv ad)) (n := I.nL) (by rw [sl_len]; exact hlen)
  rw [args_map] at hl
  refine ⟨_, by rw [hargs]; exact lg_entry_eq _ _ _, B.exec, B.bytes, hml, B.returns, B.notSynchronized, ?_, htb.trans htab.symm, hN, ?_, hK, hP, ?_, va_S.rf, ?_, ?_, hl⟩
  · rw [hnm]; exact (name_of_methodNamed B.named B.method).1
  · rw [ho]; exact findClass_of_methodNamed B.named
  · exact hD0.self
  · intro q hq; rw [← hsz]; exact Or.inr hq
  · exact hZ
/-- a contract out of a walk -/
theorem Con.ofJ {as : List Value} (hy : plainName I.y.cls = true) (hw : I.ws = [Cond.code I.y I.cc I.nL I.ret]) (ho : I.own = I.y.cls) (hnm : I.nm = I.y.name) (htab : I.tab = []) (hlen : (lg_sl as).length ≤ I.nL)
    (hJ : J l I 0 (lv_args 0 as) [] M 0 0 out) : Con l I as M out := by
  cases out with
  | inl r =>
    intro D cA ad sz
    refine Met.ofW (cc := I.cc) (maxL := I.nL) (ret := I.ret) hy hw ?_
    intro p e s m args below meth c s₁ B hml hv
    obtain ⟨ls, e1, hCx⟩ := Cx.begin rfl rfl rfl rfl hw ho hnm htab hlen B hml hv
    rw [e1]
    exact hJ D cA ad p e s m args below meth c _ [] s.heap ls hCx
  | inr r =>
    intro D cA ad sz
    refine MetFree.of_bodyS (code := I.cc) (maxLocals := I.nL) (ret := I.ret) hy ?_ ?_
    · intro args s m h hn
      obtain ⟨meth, c, h1, h2, h3, h4, h5, h6, -, -⟩ := Cond.code_spec hn (atoms_spec (ws := I.ws) h _ (by rw [hw]; exact List.mem_cons_self))
      exact ⟨meth, c, h1, h2, h3, h4, h5, h6⟩
    · intro p e s m args below meth c s₁ B hml hv _
      obtain ⟨ls, e1, hCx⟩ := Cx.begin rfl rfl rfl rfl hw ho hnm htab hlen B hml hv
      have hh0 : s₁.heap = s.heap := by rw [B.state]; rfl
      obtain ⟨t, a1, o, b1, b2, b3⟩ := hJ D cA ad p e s m args below meth c _ [] s.heap ls hCx s₁ hh0 (Stand.of_body B)
      rw [e1]
      exact ⟨t, o, a1, b1, b2, b3⟩
end CALLS
end
section
section THROWS
variable {l : Launch} {R : Room} {p : Program} {e : Env} {below : List Frame} {s : State} {sargs : Array Value} {y : MethodName} {len W9 : Nat}
/-- a callee that throws, seen from a caller's frame -/
def BackT (l : Launch) (R : Room) (p : Program) (e : Env) (below : List Frame) (s : State) (sargs : Array Value) (y : MethodName) (len W9 : Nat) (Pre : Pt → Array Value → Prop) (PostT : Pt → Array Value → Addr → Pt → Prop) : Prop :=
  ∀ (m : MethodId) (meth : Method) (c : Code) (A : Pt) (g : JFrame) (ig : Instr) (mk : MethodId) (a : Array Value),
    Stand p l e R s m sargs below meth c A.U A.locs A.cells A.slots → g.method = m → g.locals.size = c.maxLocals → decode c.code g.pc = .ok (ig, len) →
    2 * g.monitorRoom + (g.stack.map fun v => v.category).sum ≤ W9 → A.U.methodNamed? y = some mk → Pre A a →
    ∃ (q : Addr) (B : Pt), Stand p l e R s m sargs below meth c B.U B.locs B.cells B.slots ∧ PostT A a q B ∧
      Steps p.tables e below (doInvoke e (A.U.setTop g) [] mk a).1 ((B.U.setTop g).pushFrame (.throwing q))
def PostTOf (Q : Array Value → State → Outcome → State → Prop) (mc ms : Nat) (free : Addr → Prop) : Pt → Array Value → Addr → Pt → Prop := fun A a q B =>
  ∃ (g : JFrame) (mk : MethodId) (t : State) (L : List Loc), B.U.heap = t.heap ∧ B.U.vm = t.vm ∧ Q a (A.U.calling g mk a) (.threw q) t ∧ B.locs = A.locs ++ L ∧ (∀ z ∈ L, free z.base) ∧ B.cells = A.cells + mc ∧ B.slots = A.slots + ms
theorem backT_of {ws : List Cond} {rm : Room} {Pc : Array Value → State → Prop} {Q : Array Value → State → Outcome → State → Prop} {mc ms : Nat} {free : Addr → Prop} {bytes : ByteArray} {maxL : Nat} {ret : Option FieldType}
    (hM : MetFree l y (headSpec ws rm) Pc (fun _ _ _ _ _ => True) Q) (hblind : FrameBlind Pc) (hrc : rm.cells = mc) (hrs : rm.slots = ms)
    (hframes : rm.frames + 1 ≤ R.frames) (hlocals : W9 + (maxL + 11) + rm.locals ≤ R.locals)
    (hws : ∀ w ∈ ws, ∀ (a' : Array Value) (U : State), s.WarmedH U.vm → w.before a' U = true) (hcode : Cond.code y bytes maxL ret ∈ ws) (hinit : ∀ (a' : Array Value) (U : State), s.WarmedH U.vm → (Cond.initialized y.cls).before a' U = true)
    (hQ : ∀ a st o t, Q a st o t → ∃ (q : Addr) (L : List Loc), o = .threw q ∧ st.WarmedH t.vm ∧ st.sameButNew ({ t with vm := st.vm } : State) L mc ms ∧ ∀ z ∈ L, free z.base) :
    BackT l R p e below s sargs y len W9 (PreOf R mc ms Pc) (PostTOf Q mc ms free) := by
  intro m meth c A g ig mk a X hg hsize hdg hW hn hp
  obtain ⟨U, Ls, c0, s0⟩ := A
  dsimp only [Pt.U, Pt.locs, Pt.cells, Pt.slots, PreOf] at X hn hp ⊢
  have h1 : (headSpec ws rm).pre.before a U = true := atoms_intro fun w hw => hws w hw _ _ X.warmed
  have h2 : (Cond.code y bytes maxL ret).before a U = true := hws _ hcode _ _ X.warmed
  obtain ⟨methY, cY, hmY, hcY, -, hlY, -, -, -, -⟩ := Cond.code_spec hn h2
  obtain ⟨kY, hkY, -⟩ := className_of_methodNamed hn
  have hinitY : kY.init = .initialized := Cond.initialized_spec (findClass_of_methodNamed hn) hkY (hinit a U X.warmed)
  have h : At U g.method c below := by rw [hg]; exact X.here
  have happ : (headSpec ws rm).appliesLoose y e.platform (U.calling g mk a) = true :=
    Spec.appliesLoose_calling (g := g) h hdg hn hkY hinitY
      (X.room_calling (g := g) (R' := (headSpec ws rm).room) hsize hmY hcY hframes (by rw [hlY]; show _ + rm.locals ≤ _; omega) (by show c0 + rm.cells ≤ _; rw [hrc]; exact hp.1) (by show s0 + rm.slots ≤ _; rw [hrs]; exact hp.2.1)) h1
  obtain ⟨mid, hmid⟩ := h.above
  have hfr : (U.setTop g).frames = (.java g :: mid) ++ below := by rw [State.frames_setTop' g h.top, hmid]; rfl
  obtain ⟨o, s₂, hsteps, -, hend, hq⟩ := Steps.callFree hM p X.admits X.cas X.clock (acts := []) hfr happ (hblind _ _ _ _ hp.2.2) trivial
  have hq' : Q a (U.calling g mk a) o s₂ := hq
  rw [State.frames_setTop' g h.top] at hend
  obtain ⟨q, L, rfl, hW₂, hsm, hL⟩ := hQ _ _ _ _ hq'
  obtain ⟨e2, q2, q3, q4, q5, q6⟩ := id hsm
  have e3 : s₂ = ({ (U.calling g mk a).setFrames s₂.frames with heap := s₂.heap, slotsUsed := s₂.slotsUsed } : State).setVm s₂.vm := by
    have : s₂ = ({ s₂ with vm := (U.calling g mk a).vm } : State).setVm s₂.vm := rfl
    rw [e2] at this
    exact this
  have hend' : s₂.frames = .throwing q :: .java g :: U.frames.tail := hend
  have hW' : U.WarmedH s₂.vm := hW₂
  obtain ⟨g₀, hg0⟩ := Option.isSome_iff_exists.mp h.top
  obtain ⟨r, hr⟩ := State.topJava?_eq_some.mp hg0
  have hs₂ : s₂ = ((({ U with heap := s₂.heap, slotsUsed := s₂.slotsUsed } : State).setVm s₂.vm).setTop g).pushFrame (.throwing q) := by
    have hr' : (({ U with heap := s₂.heap, slotsUsed := s₂.slotsUsed } : State).setVm s₂.vm).frames = .java g₀ :: r := hr
    rw [State.pushFrame, State.frames_setTop _ hr', State.setTop_of_frames _ hr', State.setFrames_setFrames]
    refine e3.trans ?_
    rw [hend', State.calling_eq h.top, State.setFrames_setFrames, hr]
    rfl
  have hsame : U.sameButNew ({ U with heap := s₂.heap, slotsUsed := s₂.slotsUsed } : State) L mc ms := by
    refine ⟨?_, q2, q3, q4, q5, q6⟩
    obtain ⟨t, ht, -⟩ := State.frames_cons hr
    show ({ U with heap := s₂.heap, slotsUsed := s₂.slotsUsed } : State) = { U.setFrames U.frames with heap := s₂.heap, slotsUsed := s₂.slotsUsed }
    rw [State.setFrames_self ht]
  subst hg
  refine ⟨q, ⟨(({ U with heap := s₂.heap, slotsUsed := s₂.slotsUsed } : State).setVm s₂.vm), Ls ++ L, c0 + mc, s0 + ms⟩,
    ⟨X.admits, X.cas, X.clock, X.frames, X.room, X.hears, X.method, X.code, (X.here.setHeapUsed s₂.heap s₂.slotsUsed).setVm hW'.alike, X.tail, State.WarmedH.trans X.warmed hW', X.limits, X.bytes, X.same.trans (hsame.setVm s.vm)⟩,
    ⟨g, mk, s₂, L, rfl, rfl, hq', rfl, hL, rfl, rfl⟩, ?_⟩
  show Steps p.tables e below _ (((({ U with heap := s₂.heap, slotsUsed := s₂.slotsUsed } : State).setVm s₂.vm).setTop g).pushFrame (.throwing q))
  rw [← hs₂]
  exact hsteps
section CALLT
variable {m : MethodId} {args : Array Value} {meth : Method} {c : Code} {T : State} {locs : List Loc} {cells slots : Nat}
theorem callVT (X : Stand p l e R s m args below meth c T locs cells slots) (hexec : p.tables.exec = Jvm.exec) {own C : String} {index : Nat} {bytes : ByteArray} {maxL : Nat} {ret : Option FieldType}
    (hown : s.vm.findClass own = some m.cls) (hlink : (Cond.methodLink own index y).before args s = true) (hinst : (Cond.instanceMethod y).before args s = true) (hsel : (Cond.selects C y y).before args s = true)
    (hcode : (Cond.code y bytes maxL ret).before args s = true) (hy : y.cls ≠ "java/lang/invoke/MethodHandle" ∧ y.cls ≠ "java/lang/invoke/VarHandle")
    {Pre : Pt → Array Value → Prop} {PostT : Pt → Array Value → Addr → Pt → Prop} (hK : BackT l R p e below s args y 3 W9 Pre PostT)
    {b : Addr} {cellB : Cell} (hcell : T.heap[b]? = some cellB) (hobj : cellB.vm.isStatics = false) (hcls : s.vm.findClass C = some cellB.cls)
    {g : JFrame} (hg : g.method = m) (hsize : g.locals.size = c.maxLocals) {argsL rest : List Value} (hlen : ∀ sig, parseMethodDescriptor y.desc = some sig → argsL.length = sig.parameters.length)
    (hstack : g.stack = argsL.reverse ++ .ref b :: rest) (hW : 2 * g.monitorRoom + (rest.map fun v => v.category).sum ≤ W9) (hdg : decode c.code g.pc = .ok (.invokevirtual index, 3))
    (hpre : ∀ vm₁, s.WarmedH vm₁ → Pre ⟨T.setVm vm₁, locs, cells, slots⟩ (Value.ref b :: argsL).toArray) :
    ∃ (q : Addr) (vm₁ : Vm) (B : Pt), s.WarmedH vm₁ ∧ Stand p l e R s m args below meth c B.U B.locs B.cells B.slots ∧ PostT ⟨T.setVm vm₁, locs, cells, slots⟩ (Value.ref b :: argsL).toArray q B ∧
      Steps p.tables e below (T.setTop g) ((B.U.setTop { g with stack := rest }).pushFrame (.throwing q)) := by
  obtain ⟨mk, methM, hnamed, hmethM, hstM, habM⟩ := Cond.instanceMethod_spec hinst
  obtain ⟨methM', cM, hmethM', -, -, -, -, -, -, hsigM⟩ := Cond.code_spec hnamed hcode
  cases hmethM.symm.trans hmethM'
  obtain ⟨c2, r2, m2, q1, q2, q3, q4, kP, hkP, hkPi⟩ := Cond.selects_spec hsel
  cases hcls.symm.trans q1
  cases (State.methodFound?_of_named hnamed hy).symm.trans q2
  cases hnamed.symm.trans q3
  have hselP : selectMethod e.platform s.vm cellB.cls mk = .method mk := by rw [Launch.admits_selectMethod X.admits]; exact q4
  obtain ⟨vm₁, X₁, hstep₁⟩ := X.invokevirtual hexec hown hlink hnamed hmethM hstM hkP hkPi hy (a := b) (cell := cellB) hcell
    (fun z h => by rw [h] at hobj; cases hobj) hselP hmethM habM hkP hkPi (g := g) hg (argsL := argsL) (rest := rest) (hlen _ hsigM) hstack hdg
  obtain ⟨q, B, X', hpost, hsteps⟩ := hK m meth c ⟨T.setVm vm₁, locs, cells, slots⟩ { g with stack := rest } (.invokevirtual index) mk (Value.ref b :: argsL).toArray X₁ hg hsize hdg hW (X₁.named hnamed) (hpre vm₁ X₁.warmed)
  exact ⟨q, vm₁, B, X₁.warmed, X', hpost, hstep₁ _ fun acts => by rw [doInvoke_state]; exact hsteps⟩
/-- the same frame, seen from the heap as it is now -/
theorem reb (X : Stand p l e R s m args below meth c T locs cells slots) {R' : Room} (hf : R'.frames ≤ R.frames) (hl : R'.locals ≤ R.locals) (hc : cells + R'.cells ≤ R.cells) (hs : slots + R'.slots ≤ R.slots) :
    Stand p l e R' ((T.setVm s.vm).setFrames (.invoking m args :: below)) m args below meth c T [] 0 0 := by
  have htop : (T.setVm s.vm).topJava?.isSome := X.here.top
  have hF : ((T.setVm s.vm).setFrames (.invoking m args :: below)).frames = .invoking m args :: below := State.frames_setFrames _ (State.cur_lt_of_top htop)
  obtain ⟨g₀, hg0⟩ := Option.isSome_iff_exists.mp htop
  obtain ⟨r, hr⟩ := State.topJava?_eq_some.mp hg0
  obtain ⟨tt, htt, -⟩ := State.frames_cons hr
  have hroom := X.room
  have hz := X.heapSize
  have hu := X.used
  have nil0 : T.heap.toList.drop T.heap.size = [] := List.drop_eq_nil_of_le (Nat.le_of_eq Array.length_toList)
  refine ⟨X.admits, X.cas, X.clock, hF, ?_, X.hears, X.method, X.code, X.here, X.tail, X.warmed, (State.stackLimits_setFrames .. ▸ rfl), (State.stackBytes_setFrames .. ▸ rfl), ?_⟩
  · have hU : ((T.setVm s.vm).setFrames (.invoking m args :: below)).localsInUse = s.localsInUse :=
      (State.localsInUse_invoking hF (meth := meth) (c := c) X.method X.code).trans (State.localsInUse_invoking X.frames X.method X.code).symm
    have e1 : e.platform.stackLimits (T.setVm s.vm).me = e.platform.stackLimits s.me := X.limits
    have e2 : (T.setVm s.vm).me.stackBytes = s.me.stackBytes := X.bytes
    have e3 : s.frames.length = below.length + 1 := by rw [X.frames]; rfl
    simp only [State.hasRoom, Bool.and_eq_true, decide_eq_true_eq, e3] at hroom
    simp only [State.hasRoom, Bool.and_eq_true, decide_eq_true_eq, hF, hU, List.length_cons, State.stackLimits_setFrames, State.stackBytes_setFrames, e1, e2]
    have b1 : ((T.setVm s.vm).setFrames (.invoking m args :: below)).heap.size = T.heap.size := rfl
    have b2 : ((T.setVm s.vm).setFrames (.invoking m args :: below)).slotsUsed = T.slotsUsed := rfl
    rw [b1, b2]
    obtain ⟨⟨⟨⟨r1, r2, r3, r4, r5, r6⟩, r7⟩, r8⟩, r9⟩ := hroom
    exact ⟨⟨⟨⟨by omega, by omega, by omega, by omega, by omega, r6⟩, by omega⟩, by omega⟩, X.book⟩
  · refine ⟨?_, Nat.le_refl _, Nat.le_refl _, ?_, ?_, fun a c9 h9 => ⟨c9, h9, rfl, rfl, fun _ _ => rfl⟩⟩
    · show T.setVm s.vm = { ((T.setVm s.vm).setFrames (.invoking m args :: below)).setFrames (T.setVm s.vm).frames with heap := T.heap, slotsUsed := T.slotsUsed }
      rw [State.setFrames_setFrames, State.setFrames_self htt]
      rfl
    · show T.slotsUsed = T.slotsUsed + ((T.heap.toList.drop T.heap.size).map (·.slots.size)).sum
      rw [nil0]; rfl
    · show ((T.heap.toList.drop T.heap.size).map (·.slots.size)).sum ≤ 0
      rw [nil0]; exact Nat.le_refl _
end CALLT
end THROWS
end
section
section NATS
variable {l : Launch} {I : MI} {pc : Nat} {lv : List (Nat × Value)} {st : List Value} {M : List va_E} {k n : Nat} {out : Out}
/-- a function set at a place -/
def up (f : Nat → Nat) (i v : Nat) : Nat → Nat := fun j => if j = i then v else f j
theorem up_self (f : Nat → Nat) (i v : Nat) : up f i v i = v := by simp [up]
theorem up_ne (f : Nat → Nat) {i j : Nat} (v : Nat) (h : j ≠ i) : up f i v j = f j := by simp [up, h]
/-- an array of small numbers -/
abbrev aI (n : Nat) (g : Nat → Nat) : va_E := .inl (0, n, .inl (fun j => nI (g j)))
abbrev aZ (n : Nat) (g : Nat → Nat) : va_E := .inl (1, n, .inl (fun j => nI (g j)))
/-- an array of numbers less one: minus one is nothing -/
def pI (n : Nat) : Int32 := nI n - 1
abbrev aP (n : Nat) (g : Nat → Nat) : va_E := .inl (0, n, .inl (fun j => pI (g j)))
theorem upd_nI (g : Nat → Nat) (i v : Nat) : upd (fun j => nI (g j)) i (nI v) = fun j => nI (up g i v j) := by
  funext j; unfold upd up; split <;> rfl
theorem upd_pI (g : Nat → Nat) (i v : Nat) : upd (fun j => pI (g j)) i (pI v) = fun j => pI (up g i v j) := by
  funext j; unfold upd up; split <;> rfl
theorem nI_xor (a b : Nat) : nI a ^^^ nI b = nI (a ^^^ b) := by
  unfold nI
  apply Int32.toBitVec_inj.mp
  simp [BitVec.ofNat_xor]
theorem nI_and (a b : Nat) : nI a &&& nI b = nI (a &&& b) := by
  unfold nI
  apply Int32.toBitVec_inj.mp
  simp [BitVec.ofNat_and]
theorem J.iaddN {a b : Nat} {r : List Value} (hd : decode I.cc pc = .ok (.iadd, 1)) (kk : J l I (pc + 1) lv (.int (nI (a + b)) :: r) M k n out) : J l I pc lv (.int (nI b) :: .int (nI a) :: r) M k n out := J.iadd hd (by rw [nI_add]; exact kk)
theorem J.isubN {a b : Nat} {r : List Value} (hd : decode I.cc pc = .ok (.isub, 1)) (h : b ≤ a) (kk : J l I (pc + 1) lv (.int (nI (a - b)) :: r) M k n out) : J l I pc lv (.int (nI b) :: .int (nI a) :: r) M k n out := J.isub hd (by rw [pk_sub h]; exact kk)
theorem J.imulN {a b : Nat} {r : List Value} (hd : decode I.cc pc = .ok (.imul, 1)) (kk : J l I (pc + 1) lv (.int (nI (a * b)) :: r) M k n out) : J l I pc lv (.int (nI b) :: .int (nI a) :: r) M k n out := J.imul hd (by rw [pk_mul]; exact kk)
theorem J.ixorN {a b : Nat} {r : List Value} (hd : decode I.cc pc = .ok (.ixor, 1)) (kk : J l I (pc + 1) lv (.int (nI (a ^^^ b)) :: r) M k n out) : J l I pc lv (.int (nI b) :: .int (nI a) :: r) M k n out := J.ixor hd (by rw [nI_xor]; exact kk)
theorem J.iandN {a b : Nat} {r : List Value} (hd : decode I.cc pc = .ok (.iand, 1)) (kk : J l I (pc + 1) lv (.int (nI (a &&& b)) :: r) M k n out) : J l I pc lv (.int (nI b) :: .int (nI a) :: r) M k n out := J.iand hd (by rw [nI_and]; exact kk)
theorem J.idivN {a b : Nat} {r : List Value} (hd : decode I.cc pc = .ok (.idiv, 1)) (ha : a < 2 ^ 31) (h0 : 0 < b) (hb : b < 2 ^ 31) (kk : J l I (pc + 1) lv (.int (nI (a / b)) :: r) M k n out) : J l I pc lv (.int (nI b) :: .int (nI a) :: r) M k n out := J.idiv hd (nI_ne0 h0 hb) (by rw [pk_div ha h0 hb]; exact kk)
theorem J.iremN {a b : Nat} {r : List Value} (hd : decode I.cc pc = .ok (.irem, 1)) (ha : a < 2 ^ 31) (h0 : 0 < b) (hb : b < 2 ^ 31) (kk : J l I (pc + 1) lv (.int (nI (a % b)) :: r) M k n out) : J l I pc lv (.int (nI b) :: .int (nI a) :: r) M k n out := J.irem hd (nI_ne0 h0 hb) (by rw [pk_rem ha h0 hb]; exact kk)
theorem sh31 : ∀ i : Fin 32, ((nI i.val &&& 31).toBitVec.smod 32).toNat = i.val := by decide +kernel
theorem J.ishrN {a b : Nat} {r : List Value} (hd : decode I.cc pc = .ok (.ishr, 1)) (ha : a < 2 ^ 31) (hb : b < 32) (kk : J l I (pc + 1) lv (.int (nI (a / 2 ^ b)) :: r) M k n out) : J l I pc lv (.int (nI b) :: .int (nI a) :: r) M k n out := J.ishr hd (by rw [pk_shrN ha _ b (sh31 ⟨b, hb⟩)]; exact kk)
theorem J.iincN {i a : Nat} {z : Int} (hd : decode I.cc pc = .ok (.iinc i z, 3)) (hz : z = 1) (hl : lk lv i = some (.int (nI a))) (hn : i < I.nL) (hs : sok lv i = true) (kk : J l I (pc + 3) (sv lv i (.int (nI (a + 1)))) st M k n out) : J l I pc lv st M k n out := J.iinc hd hl (by rw [hz, nI_succ]; rfl) hn hs kk
theorem J.ialoadN {a len i : Nat} {g : Nat → Nat} {r : List Value} (hd : decode I.cc pc = .ok (.iaload, 1)) (hM : M[a]? = some (aI len g)) (hl : len < 2 ^ 31) (hi : i < len) (kk : J l I (pc + 1) lv (.int (nI (g i)) :: r) M k n out) : J l I pc lv (.int (nI i) :: .ref a :: r) M k n out :=
  J.ialoadR hd hM (vp_in_nI hi hl) (by rw [nI_clamp (Nat.lt_trans hi hl)]; exact kk)
theorem J.ialoadP {a len i : Nat} {g : Nat → Nat} {r : List Value} (hd : decode I.cc pc = .ok (.iaload, 1)) (hM : M[a]? = some (aP len g)) (hl : len < 2 ^ 31) (hi : i < len) (kk : J l I (pc + 1) lv (.int (pI (g i)) :: r) M k n out) : J l I pc lv (.int (nI i) :: .ref a :: r) M k n out :=
  J.ialoadR hd hM (vp_in_nI hi hl) (by rw [nI_clamp (Nat.lt_trans hi hl)]; exact kk)
theorem J.baloadN {a len i : Nat} {g : Nat → Nat} {r : List Value} (hd : decode I.cc pc = .ok (.baload, 1)) (hM : M[a]? = some (aZ len g)) (hl : len < 2 ^ 31) (hi : i < len) (kk : J l I (pc + 1) lv (.int (nI (g i)) :: r) M k n out) : J l I pc lv (.int (nI i) :: .ref a :: r) M k n out :=
  J.baloadR hd hM (vp_in_nI hi hl) (by rw [nI_clamp (Nat.lt_trans hi hl)]; exact kk)
theorem J.iastoreN {a len i v : Nat} {g : Nat → Nat} {r : List Value} (hd : decode I.cc pc = .ok (.iastore, 1)) (hM : M[a]? = some (aI len g)) (hl : len < 2 ^ 31) (hi : i < len) (kk : J l I (pc + 1) lv r (M.set a (aI len (up g i v))) k n out) : J l I pc lv (.int (nI v) :: .int (nI i) :: .ref a :: r) M k n out :=
  J.iastoreR hd hM (vp_in_nI hi hl) (by rw [nI_clamp (Nat.lt_trans hi hl), upd_nI]; exact kk)
theorem J.iastoreP {a len i v : Nat} {g : Nat → Nat} {r : List Value} (hd : decode I.cc pc = .ok (.iastore, 1)) (hM : M[a]? = some (aP len g)) (hl : len < 2 ^ 31) (hi : i < len) (kk : J l I (pc + 1) lv r (M.set a (aP len (up g i v))) k n out) : J l I pc lv (.int (pI v) :: .int (nI i) :: .ref a :: r) M k n out :=
  J.iastoreR hd hM (vp_in_nI hi hl) (by rw [nI_clamp (Nat.lt_trans hi hl), upd_pI]; exact kk)
theorem nar01 : ∀ v : Fin 2, vp_nar .boolean (nI v.val) = nI v.val := by decide +kernel
theorem J.bastoreN {a len i v : Nat} {g : Nat → Nat} {r : List Value} (hd : decode I.cc pc = .ok (.bastore, 1)) (hM : M[a]? = some (aZ len g)) (hl : len < 2 ^ 31) (hi : i < len) (hv : v < 2) (kk : J l I (pc + 1) lv r (M.set a (aZ len (up g i v))) k n out) : J l I pc lv (.int (nI v) :: .int (nI i) :: .ref a :: r) M k n out :=
  J.bastoreR hd hM (vp_in_nI hi hl) (by rw [nI_clamp (Nat.lt_trans hi hl), nar01 ⟨v, hv⟩, upd_nI]; exact kk)
theorem J.icmp_ltN {a b : Nat} {off : Int} {tgt : Nat} {r : List Value} (hd : decode I.cc pc = .ok (.if_icmp .lt off, 3)) (ht : (pc : Int) + off = (tgt : Int)) (ha : a < 2 ^ 31) (hb : b < 2 ^ 31) (kt : a < b → J l I tgt lv r M k n out) (kf : b ≤ a → J l I (pc + 3) lv r M k n out) : J l I pc lv (.int (nI b) :: .int (nI a) :: r) M k n out :=
  J.icmp_lt hd ht (fun h => kt ((nI_ltI ha hb).mp h)) (fun h => kf (by have := mt (nI_ltI ha hb).mpr h; omega))
theorem J.icmp_geN {a b : Nat} {off : Int} {tgt : Nat} {r : List Value} (hd : decode I.cc pc = .ok (.if_icmp .ge off, 3)) (ht : (pc : Int) + off = (tgt : Int)) (ha : a < 2 ^ 31) (hb : b < 2 ^ 31) (kt : b ≤ a → J l I tgt lv r M k n out) (kf : a < b → J l I (pc + 3) lv r M k n out) : J l I pc lv (.int (nI b) :: .int (nI a) :: r) M k n out :=
  J.icmp_ge hd ht (fun h => kt ((nI_leI hb ha).mp h)) (fun h => kf (by have := mt (nI_leI hb ha).mpr h; omega))
theorem J.icmp_gtN {a b : Nat} {off : Int} {tgt : Nat} {r : List Value} (hd : decode I.cc pc = .ok (.if_icmp .gt off, 3)) (ht : (pc : Int) + off = (tgt : Int)) (ha : a < 2 ^ 31) (hb : b < 2 ^ 31) (kt : b < a → J l I tgt lv r M k n out) (kf : a ≤ b → J l I (pc + 3) lv r M k n out) : J l I pc lv (.int (nI b) :: .int (nI a) :: r) M k n out :=
  J.icmp_gt hd ht (fun h => kt ((nI_ltI hb ha).mp h)) (fun h => kf (by have := mt (nI_ltI hb ha).mpr h; omega))
theorem J.icmp_leN {a b : Nat} {off : Int} {tgt : Nat} {r : List Value} (hd : decode I.cc pc = .ok (.if_icmp .le off, 3)) (ht : (pc : Int) + off = (tgt : Int)) (ha : a < 2 ^ 31) (hb : b < 2 ^ 31) (kt : a ≤ b → J l I tgt lv r M k n out) (kf : b < a → J l I (pc + 3) lv r M k n out) : J l I pc lv (.int (nI b) :: .int (nI a) :: r) M k n out :=
  J.icmp_le hd ht (fun h => kt ((nI_leI ha hb).mp h)) (fun h => kf (by have := mt (nI_leI ha hb).mpr h; omega))
theorem J.icmp_eqN {a b : Nat} {off : Int} {tgt : Nat} {r : List Value} (hd : decode I.cc pc = .ok (.if_icmp .eq off, 3)) (ht : (pc : Int) + off = (tgt : Int)) (ha : a < 2 ^ 31) (hb : b < 2 ^ 31) (kt : a = b → J l I tgt lv r M k n out) (kf : a ≠ b → J l I (pc + 3) lv r M k n out) : J l I pc lv (.int (nI b) :: .int (nI a) :: r) M k n out :=
  J.icmp_eq hd ht (fun h => kt ((nI_eq ha hb).mp h)) (fun h => kf (fun q => h (q ▸ rfl)))
theorem J.icmp_neN {a b : Nat} {off : Int} {tgt : Nat} {r : List Value} (hd : decode I.cc pc = .ok (.if_icmp .ne off, 3)) (ht : (pc : Int) + off = (tgt : Int)) (ha : a < 2 ^ 31) (hb : b < 2 ^ 31) (kt : a ≠ b → J l I tgt lv r M k n out) (kf : a = b → J l I (pc + 3) lv r M k n out) : J l I pc lv (.int (nI b) :: .int (nI a) :: r) M k n out :=
  J.icmp_ne hd ht (fun h => kt (fun q => h (q ▸ rfl))) (fun h => kf ((nI_eq ha hb).mp h))
theorem J.if_eqN {a : Nat} {off : Int} {tgt : Nat} {r : List Value} (hd : decode I.cc pc = .ok (.ifCond .eq off, 3)) (ht : (pc : Int) + off = (tgt : Int)) (ha : a < 2 ^ 31) (kt : a = 0 → J l I tgt lv r M k n out) (kf : a ≠ 0 → J l I (pc + 3) lv r M k n out) : J l I pc lv (.int (nI a) :: r) M k n out :=
  J.if_eq hd ht (fun h => kt ((nI_eq ha (by decide)).mp (h.trans nI_0.symm))) (fun h => kf (fun q => h (by rw [q]; exact nI_0)))
theorem J.if_neN {a : Nat} {off : Int} {tgt : Nat} {r : List Value} (hd : decode I.cc pc = .ok (.ifCond .ne off, 3)) (ht : (pc : Int) + off = (tgt : Int)) (ha : a < 2 ^ 31) (kt : a ≠ 0 → J l I tgt lv r M k n out) (kf : a = 0 → J l I (pc + 3) lv r M k n out) : J l I pc lv (.int (nI a) :: r) M k n out :=
  J.if_ne hd ht (fun h => kt (fun q => h (by rw [q]; exact nI_0))) (fun h => kf ((nI_eq ha (by decide)).mp (h.trans nI_0.symm)))
theorem J.if_ltN {a : Nat} {off : Int} {tgt : Nat} {r : List Value} (hd : decode I.cc pc = .ok (.ifCond .lt off, 3)) (ht : (pc : Int) + off = (tgt : Int)) (ha : a < 2 ^ 31)  (kf : True → J l I (pc + 3) lv r M k n out) : J l I pc lv (.int (nI a) :: r) M k n out :=
  J.if_lt hd ht (fun h => (nI_pos ha h).elim) (fun _ => kf trivial)
theorem J.if_geN {a : Nat} {off : Int} {tgt : Nat} {r : List Value} (hd : decode I.cc pc = .ok (.ifCond .ge off, 3)) (ht : (pc : Int) + off = (tgt : Int)) (ha : a < 2 ^ 31) (kt : True → J l I tgt lv r M k n out)  : J l I pc lv (.int (nI a) :: r) M k n out :=
  J.if_ge hd ht (fun _ => kt trivial) (fun h => (h (nI_pos' ha)).elim)
theorem J.if_gtN {a : Nat} {off : Int} {tgt : Nat} {r : List Value} (hd : decode I.cc pc = .ok (.ifCond .gt off, 3)) (ht : (pc : Int) + off = (tgt : Int)) (ha : a < 2 ^ 31) (kt : 0 < a → J l I tgt lv r M k n out) (kf : a = 0 → J l I (pc + 3) lv r M k n out) : J l I pc lv (.int (nI a) :: r) M k n out :=
  J.if_gt hd ht (fun h => kt (Nat.pos_of_ne_zero fun q => by rw [q, nI_0] at h; exact absurd h (by decide))) (fun h => kf (Nat.eq_zero_of_not_pos fun q => h (by have := nI_lt q ha; rwa [nI_0] at this)))
theorem J.if_leN {a : Nat} {off : Int} {tgt : Nat} {r : List Value} (hd : decode I.cc pc = .ok (.ifCond .le off, 3)) (ht : (pc : Int) + off = (tgt : Int)) (ha : a < 2 ^ 31) (kt : a = 0 → J l I tgt lv r M k n out) (kf : 0 < a → J l I (pc + 3) lv r M k n out) : J l I pc lv (.int (nI a) :: r) M k n out :=
  J.if_le hd ht (fun h => kt (Nat.eq_zero_of_not_pos fun q => nI_nle q ha h)) (fun h => kf (Nat.pos_of_ne_zero fun q => h (by rw [q, nI_0]; decide)))
end NATS
end
section
section JT
variable {l : Launch} {I I' : MI} {pc : Nat} {lv : List (Nat × Value)} {st : List Value} {M : List va_E} {k n : Nat}
/-- cells that no place names are kept -/
theorem kept_frame {s U : State} {a b : Nat} (h : s.sameButNew ({ U with vm := s.vm } : State) [] a b) : s.heap.size ≤ U.heap.size ∧ ∀ q : Nat, q < s.heap.size → U.heap[q]? = s.heap[q]? := by
  obtain ⟨-, h2, -, -, -, h6⟩ := h
  refine ⟨h2, fun q hq => ?_⟩
  obtain ⟨c9, e1, e2, e3, e4⟩ := h6 q _ (Array.getElem?_eq_getElem hq)
  have hs : c9.slots = (s.heap[q]).slots := Array.ext_getElem? fun i => e4 i (fun hm => nomatch hm)
  have h9 : c9 = s.heap[q] := by
    rw [hs] at e2
    exact e2
  have e5 : U.heap[q]? = some c9 := e1
  rw [e5, h9, Array.getElem?_eq_getElem hq]
/-- the words of 'throw new E()' -/
def TW (own cls : String) (ik ic : Nat) (names : List String) : Prop := Bundle.fit cls = true ∧ (∀ n ∈ names, Bundle.fit n = true) ∧ Cond.classLink own ik cls ∈ lw_tbl ∧ Cond.initialized cls ∈ lw_tbl ∧ ∀ w ∈ Bundle.ownAtoms0 own ic cls names, w ∈ zw ∨ (w ∈ lw_tbl ∧ okw w = true)
set_option maxHeartbeats 1000000 in
theorem J.throwNew (hl : l.stackTraces = false) {cls : String} {names : List String} {ik ic : Nat} (hT : TW I.own cls ik ic names)
    (d0 : decode I.cc pc = .ok (.new ik, 3)) (d3 : decode I.cc (pc + 3) = .ok (.dup, 1)) (d4 : decode I.cc (pc + 4) = .ok (.invokespecial ic, 3)) (d7 : decode I.cc (pc + 7) = .ok (.athrow, 1)) (htab : I.tab = [])
    (hf : names.length + 3 < I.rm.frames) (hlo : wsum st + (13 * (names.length + 1) + 42) ≤ I.rm.locals) (hc : k + 1 ≤ I.mc ∧ I.mc ≤ I.rm.cells) (hs : n + 6 ≤ I.ms ∧ I.ms ≤ I.rm.slots) : J l I pc lv st M k n (.inr (cls, M)) := by
  intro D cA ad p e s m args below meth c A locs H ls h T hT0 X
  obtain ⟨hcls, hnames, hk, hini, hat⟩ := hT
  have htr : e.platform.stackTraces = false := (show e.platform.stackTraces = l.stackTraces by rw [X.admits.platform]).trans hl
  have Y := reb X (R' := { frames := I.rm.frames, locals := I.rm.locals, cells := 1, slots := 6 }) (Nat.le_refl _) (Nat.le_refl _) (by show k + 1 ≤ _; omega) (by show n + 6 ≤ _; omega)
  obtain ⟨s', hA⟩ : ∃ z, z = (T.setVm s.vm).setFrames (.invoking m args :: below) := ⟨_, rfl⟩
  rw [← hA] at Y
  have hvm : s'.vm = s.vm := by rw [hA]; rfl
  have hhp : s'.heap = H := by rw [hA]; exact hT0
  have hW0 : s.WarmedH s'.vm := by rw [hvm]; exact State.WarmedH.refl s
  have hN : NW s' := h.hw.moved hW0
  have hZ : ZZ A s' H := (h.hZ.kept h.hS.1 h.hS.2.1).moved hW0.alike
  have hws : ∀ w ∈ Bundle.ownAtoms0 I.own ic cls names, w.before args s' = true := by
    intro w hw
    rcases hat w hw with z | z
    · exact hZ s' args (Vm.Alike.refl _) (by rw [hhp]; exact Nat.le_refl _) (fun q _ _ => by rw [hhp]) w z
    · exact hN.at z.1 z.2 args
  have hown' : s'.vm.findClass I.own = some m.cls := by rw [hvm]; exact h.ho
  have hcc : c.code = I.cc := h.hb
  obtain ⟨vm₁, cX, kX, hfX, hkX, -, -, X₁, st1⟩ := Y.newCold h.hx (own := I.own) (C := cls) (index := ik) (n := 6) hown' (hN.at hk rfl args) (hws _ (by simp [Bundle.ownAtoms0])) (hN.at hini rfl args)
    (g := F0 m pc ls (st.map (pv ad))) rfl (by rw [hcc]; exact d0) (Nat.le_refl _) (Nat.le_refl _)
  generalize hT1 : (T.setVm vm₁).pushCell { cls := cX, slots := kX.instanceTypes.map defaultValue, vm := .none } = T1 at X₁ st1
  have hcellA : T1.heap[T.heap.size]? = some (freshCell cX kX) := by rw [← hT1]; exact State.heap_pushCell_size _ _
  have d3' : decode c.code (pc + 3) = .ok (.dup, 1) := by rw [hcc]; exact d3
  have hcat : (Value.ref T.heap.size).category = 1 := rfl
  have hout : ∀ x ∈ c.exceptionTable.toList, covers x (pc + 4 + 3) = false := by rw [h.2.2.2.2.2.2.1, htab]; exact fun _ hx => nomatch hx
  obtain ⟨U, hsteps, hrun, hend, hW, hsame, ce, hce, hO⟩ := X₁.ctorThrow0 h.hx htr (own := I.own) (cls := cls) (names := names) (ic := ic) hown' hcls hnames hws (fun x hx => nomatch hx) hfX hkX hcellA (by rw [hhp, hT0]; exact Nat.le_refl _)
    (g := { method := m, pc := pc + 4, locals := ls, stack := .ref T.heap.size :: .ref T.heap.size :: st.map (pv ad), locked := none }) rfl (h.hl.1.trans h.2.2.1.symm) rfl rfl (rest := st.map (pv ad)) rfl
    (by rw [hcc]; exact d4) (by rw [hcc]; exact d7) hout hf (by
      have e9 := wsum_pv ad st
      simp only [List.map_cons, List.sum_cons, hcat, e9]
      show 2 * 0 + _ + _ ≤ I.rm.locals
      omega) h.2.2.2.2.1
  obtain ⟨f1, f2⟩ := kept_frame hsame
  rw [hhp] at f1 f2
  have hWs : s.WarmedH U.vm := State.WarmedH.trans hW0 hW
  have hcl : s.vm.findClass cls = some ce.cls := by
    have h9 := hO.cls
    rw [hvm] at h9
    exact h9
  have hall : s.sameButNew ({ U with vm := s.vm } : State) locs I.mc I.ms := by
    subst hA
    obtain ⟨e1, e2⟩ := hsame
    rw [State.setFrames_setFrames] at e1
    have h2 : (T.setVm s.vm).sameButNew ({ U with vm := s.vm } : State) [] (0 + 1) (0 + 6) := ⟨e1, e2⟩
    have h3 := X.same.trans h2
    rw [List.append_nil] at h3
    exact h3.mono (by omega) (by omega)
  have hP' : va_P D vwCl (pw ad cA M) U.heap := h.hP.kept (fun j q hq => f2 q.1 (h.hP j q hq).lt)
  refine ⟨U, ?_, .threw T.heap.size, hrun, hend, ⟨ad, fun _ _ => rfl, fun _ => rfl, Nat.le_refl _, hP', va_K.moved hWs.alike h.hK, h.hD⟩, T.heap.size, ce, locs, rfl, hce, hO.vm, hcl, ⟨Nat.le_trans h.hS.1 f1, fun q h1 h2 => (f2 q (Nat.lt_of_lt_of_le h1 h.hS.1)).trans (h.hS.2.1 q h1 h2)⟩, hWs, hall, h.hS.2.2⟩
  refine st1 _ ?_
  show Steps p.tables e below (T1.setTop { method := m, pc := pc + 3, locals := ls, stack := .ref T.heap.size :: st.map (pv ad), locked := none }) _
  jvm_step X₁.here [X₁.here.top, h.hx, d3', Value.category]
  exact hsteps
end JT
theorem tw_IAE : TW NV "java/lang/IllegalArgumentException" 57 59 ["java/lang/RuntimeException", "java/lang/Exception"] := ⟨by decide +kernel, by decide +kernel, by decide +kernel, by decide +kernel, by decide +kernel⟩
theorem tw_ISE : TW NV "java/lang/IllegalStateException" 70 72 ["java/lang/RuntimeException", "java/lang/Exception"] := ⟨by decide +kernel, by decide +kernel, by decide +kernel, by decide +kernel, by decide +kernel⟩
theorem tw_IOB : TW NV "java/lang/IndexOutOfBoundsException" 95 97 ["java/lang/RuntimeException", "java/lang/Exception"] := ⟨by decide +kernel, by decide +kernel, by decide +kernel, by decide +kernel, by decide +kernel⟩
theorem tw_ARE : TW NV "java/lang/ArithmeticException" 157 159 ["java/lang/RuntimeException", "java/lang/Exception"] := ⟨by decide +kernel, by decide +kernel, by decide +kernel, by decide +kernel, by decide +kernel⟩
theorem tw_NSE : TW NV "java/util/NoSuchElementException" 171 173 ["java/lang/RuntimeException", "java/lang/Exception"] := ⟨by decide +kernel, by decide +kernel, by decide +kernel, by decide +kernel, by decide +kernel⟩
end
section
section VT
variable {l : Launch} {I I' : MI} {pc : Nat} {lv : List (Nat × Value)} {M : List va_E} {k n : Nat}
/-- what a callee that threw leaves, as its caller has it -/
theorem Qt.facts {D : va_G} {cA ad : Nat → Nat} {N : Nat} {A : Nat → Prop} {mc ms : Nat} {r : String × List va_E} {a : Array Value} {st t : State} {o : Outcome} (h : Qt D cA ad N A mc ms r a st o t) : ∃ (q : Addr) (L : List Loc), o = .threw q ∧ st.WarmedH t.vm ∧ st.sameButNew ({ t with vm := st.vm } : State) L mc ms ∧ ∀ z ∈ L, A z.base := by
  obtain ⟨-, q, ce, L, h1, -, -, -, -, h6, h7, h8⟩ := h
  exact ⟨q, L, h1, h6, h7, h8⟩
set_option maxHeartbeats 1000000 in
/-- a call that throws: the frame has q thrown over it -/
theorem vthrown {index na b ci : Nat} {fs : List Value} {C : String} {T0 : u_T} {N : Nat} {as rest : List Value} {E : String} {M' : List va_E} (hC : Con l I' (.ref b :: as) M (.inr (E, M'))) (hc : CallV I I' C index na) (hd : decode I.cc pc = .ok (.invokevirtual index, 3)) (hM : M[b]? = some (.inr (ci, fs))) (hcl : vwCl[ci]? = some (C, T0, N)) (hna : as.length = na) (hw : wsum rest ≤ 8) (hf : k + I'.mc ≤ I.rm.cells ∧ n + I'.ms ≤ I.rm.slots)
    {D : va_G} {cA ad : Nat → Nat} {p : Program} {e : Env} {s : State} {m : MethodId} {args : Array Value} {below : List Frame} {meth : Method} {c : Code} {A : Nat → Prop} {locs : List Loc} {H : Heap} {ls : Array Slot} (h : Cx I D cA ad p s m args meth c A locs H ls lv M)
    {T : State} (hT : T.heap = H) (X : Stand p l e I.rm s m args below meth c T locs k n) :
    ∃ (q : Addr) (ce : Cell) (T' : State) (L : List Loc) (ad' : Nat → Nat), (∀ i, i < M.length → ad' i = ad i) ∧ (M'.length = M.length → ad' = ad) ∧ M.length ≤ M'.length ∧ va_P D vwCl (pw ad' cA M') T'.heap ∧ va_D A (pw ad' cA M') ∧ va_S A s.heap T'.heap (locs ++ L) ∧
      T'.heap[q]? = some ce ∧ ce.vm = .none ∧ s.vm.findClass E = some ce.cls ∧ Stand p l e I.rm s m args below meth c T' (locs ++ L) (k + I'.mc) (n + I'.ms) ∧
      Steps p.tables e below (T.setTop (F0 m pc ls ((as.reverse ++ .ref b :: rest).map (pv ad)))) ((T'.setTop (F0 m pc ls (rest.map (pv ad)))).pushFrame (.throwing q)) := by
  obtain ⟨p1, p2⟩ := Ps_here h (.ref b :: as)
  have hb := hc.1
  have hBk := backT_of (p := p) (e := e) (below := below) (s := s) (sargs := args) (len := 3) (W9 := 8) (R := I.rm) (hC D cA ad H.size) p1 hb.1 hb.2.1 hb.2.2.1 hb.2.2.2.1 (hb.ws h.hw) hb.mem (fun a' U hW => h.hw.1 U a' hW _ hb.2.2.2.2.2.2.1 rfl) (fun a st o t hq => Qt.facts hq)
  obtain ⟨cellB, hcB, hoB, hclB⟩ := va_recv h.hK h.hP hcl (pw_at (ad := ad) (cA := cA) hM)
  obtain ⟨q, vm₁, ⟨U', l2, c2, s2⟩, hW₁, X', ⟨g', mk, t, L, e1, e2, hq, h1, hL, h2, h3⟩, st⟩ := callVT X h.hx h.ho (h.hw.at hc.2.1 rfl args) (h.hw.at hc.2.2.1 rfl args) (h.hw.at hc.2.2.2 rfl args) (h.hw.at hb.2.2.2.2.2.1 rfl args) hb.2.2.2.2.2.2.2.1 hBk (b := ad b) (by rw [hT]; exact hcB) hoB hclB
    (g := F0 m pc ls ((as.reverse ++ .ref b :: rest).map (pv ad))) rfl (h.hl.1.trans h.2.2.1.symm) (argsL := as.map (pv ad)) (rest := rest.map (pv ad)) (fun sig hs => by rw [List.length_map]; exact hna.trans (hb.arity sig hs)) (map_rev ad as (.ref b :: rest)) (by show 2 * 0 + _ ≤ 8; rw [wsum_pv]; omega) (by rw [h.hb]; exact hd)
    (fun vm₁ hW₁ => ⟨hf.1, hf.2, p2 (T.setVm vm₁) hT hW₁⟩)
  dsimp only [Pt.U, Pt.locs, Pt.cells, Pt.slots] at X' e1 e2 h1 h2 h3 st hq
  subst h1; subst h2; subst h3
  obtain ⟨⟨ad', g1, g2, g3, g5, g6, g7⟩, q9, ce, L9, z1, z2, z3, z4, z5, z6, z7, z8⟩ := hq
  cases z1
  have hfr := free_in h
  have h0 : ((T.setVm vm₁).calling g' mk (Value.ref (ad b) :: as.map (pv ad)).toArray).heap = H := hT
  have hSz : H.size ≤ U'.heap.size := by rw [e1, ← h0]; exact z5.1
  have hk1 : ∀ q : Nat, q < H.size → ¬ A q → U'.heap[q]? = H[q]? := by
    intro q g h9
    rw [e1, ← h0]
    exact z5.2 q (by rw [h0]; exact g) (fun z => h9 (hfr q z))
  refine ⟨q, ce, U', L, ad', g1, g2, g3, by rw [e1]; exact g5, g7.weaken (fun j q _ hq => hfr _ hq), ⟨Nat.le_trans h.hS.1 hSz, fun q h1 h2 => (hk1 q (Nat.lt_of_lt_of_le h1 h.hS.1) h2).trans (h.hS.2.1 q h1 h2), fun q hq => ?_⟩, by rw [e1]; exact z2, z3, ?_, X', st⟩
  · rcases List.mem_append.mp hq with z | z
    · exact h.hS.2.2 q z
    · exact hfr _ (hL q z)
  · have : vm₁.findClass E = some ce.cls := z4
    rw [hW₁.alike.findClass] at this
    exact this
/-- .. and nobody catches it here -/
theorem J.vthrows {index na b ci : Nat} {fs : List Value} {C : String} {T0 : u_T} {N : Nat} {as rest : List Value} {E : String} {M' : List va_E} (hC : Con l I' (.ref b :: as) M (.inr (E, M'))) (hc : CallV I I' C index na) (hd : decode I.cc pc = .ok (.invokevirtual index, 3)) (hM : M[b]? = some (.inr (ci, fs))) (hcl : vwCl[ci]? = some (C, T0, N)) (hna : as.length = na) (hw : wsum rest ≤ 8) (htab : I.tab = []) (hf : k + I'.mc ≤ I.mc ∧ n + I'.ms ≤ I.ms) (hr : I.mc ≤ I.rm.cells ∧ I.ms ≤ I.rm.slots) : J l I pc lv (as.reverse ++ .ref b :: rest) M k n (.inr (E, M')) := by
  intro D cA ad p e s m args below meth c A locs H ls h T hT X
  obtain ⟨q, ce, T', L, ad', g1, g2, g3, gP, gD, gS, hce, hcv, hcl9, X', st⟩ := vthrown hC hc hd hM hcl hna hw ⟨Nat.le_trans hf.1 hr.1, Nat.le_trans hf.2 hr.2⟩ h hT X
  obtain ⟨st1, hrun, hend, hW, hsm⟩ := X'.leaveThrown q (g := F0 m pc ls (rest.map (pv ad))) rfl rfl rfl (by rw [h.2.2.2.2.2.2.1, htab]; exact fun _ hx => nomatch hx) h.2.2.2.2.1
  exact ⟨_, st.trans st1, .threw q, hrun, hend, ⟨ad', g1, g2, g3, gP, va_K.moved hW.alike h.hK, gD⟩, q, ce, locs ++ L, rfl, hce, hcv, hcl9, gS.F rfl, hW, hsm.mono hf.1 hf.2, gS.2.2⟩
end VT
end
