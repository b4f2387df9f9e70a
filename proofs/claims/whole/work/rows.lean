section
-- ===== PART A: goes FIRST, ahead of the names: the tables' words, and 'selects' of the private methods out of them =====
/-- a private method of a class that the tables say can be made, by its rows of tables_1 -/
def lw_okq (q : MethodName × Nat) : Prop := (q.1.cls ≠ "java/lang/invoke/MethodHandle" ∧ q.1.cls ≠ "java/lang/invoke/VarHandle") ∧ Cond.instantiable q.1.cls q.2 ∈ tables_1 ∧ Cond.privateMethod q.1 ∈ tables_1 ∧ Cond.instanceMethod q.1 ∈ tables_1
theorem lw_p0 : lw_okq (⟨"BoxBindings", "ruleAt", "(I)I"⟩, 3) := ⟨⟨by decide +kernel, by decide +kernel⟩, List.mem_of_getElem? (i := 10) (by decide +kernel), List.mem_of_getElem? (i := 422) (by decide +kernel), List.mem_of_getElem? (i := 423) (by decide +kernel)⟩
theorem lw_p1 : lw_okq (⟨"BoxBindingsModel", "isLent", "(I)Z"⟩, 3) := ⟨⟨by decide +kernel, by decide +kernel⟩, List.mem_of_getElem? (i := 426) (by decide +kernel), List.mem_of_getElem? (i := 455) (by decide +kernel), List.mem_of_getElem? (i := 456) (by decide +kernel)⟩
theorem lw_p2 : lw_okq (⟨"BoxBindingsModel", "end", "(I)V"⟩, 3) := ⟨⟨by decide +kernel, by decide +kernel⟩, List.mem_of_getElem? (i := 426) (by decide +kernel), List.mem_of_getElem? (i := 459) (by decide +kernel), List.mem_of_getElem? (i := 460) (by decide +kernel)⟩
theorem lw_p3 : lw_okq (⟨"BoxBindingsModel", "lapse", "()I"⟩, 3) := ⟨⟨by decide +kernel, by decide +kernel⟩, List.mem_of_getElem? (i := 426) (by decide +kernel), List.mem_of_getElem? (i := 463) (by decide +kernel), List.mem_of_getElem? (i := 464) (by decide +kernel)⟩
theorem lw_p4 : lw_okq (⟨"BoxBindingsModel", "endOf", "(I)I"⟩, 3) := ⟨⟨by decide +kernel, by decide +kernel⟩, List.mem_of_getElem? (i := 426) (by decide +kernel), List.mem_of_getElem? (i := 467) (by decide +kernel), List.mem_of_getElem? (i := 468) (by decide +kernel)⟩
theorem lw_p5 : lw_okq (⟨"BoxBindingsModel", "send", "(IIIII)I"⟩, 3) := ⟨⟨by decide +kernel, by decide +kernel⟩, List.mem_of_getElem? (i := 426) (by decide +kernel), List.mem_of_getElem? (i := 487) (by decide +kernel), List.mem_of_getElem? (i := 488) (by decide +kernel)⟩
theorem lw_p6 : lw_okq (⟨"BoxBindingsModel", "bindingOf", "(IIII)I"⟩, 3) := ⟨⟨by decide +kernel, by decide +kernel⟩, List.mem_of_getElem? (i := 426) (by decide +kernel), List.mem_of_getElem? (i := 491) (by decide +kernel), List.mem_of_getElem? (i := 492) (by decide +kernel)⟩
theorem lw_p7 : lw_okq (⟨"BoxBindingsModel", "chosen", "(II)I"⟩, 3) := ⟨⟨by decide +kernel, by decide +kernel⟩, List.mem_of_getElem? (i := 426) (by decide +kernel), List.mem_of_getElem? (i := 495) (by decide +kernel), List.mem_of_getElem? (i := 496) (by decide +kernel)⟩
theorem lw_p8 : lw_okq (⟨"BoxBindingsModel", "blockOf", "(I)I"⟩, 3) := ⟨⟨by decide +kernel, by decide +kernel⟩, List.mem_of_getElem? (i := 426) (by decide +kernel), List.mem_of_getElem? (i := 499) (by decide +kernel), List.mem_of_getElem? (i := 500) (by decide +kernel)⟩
theorem lw_p9 : lw_okq (⟨"BoxBindingsModel", "fits", "(II)Z"⟩, 3) := ⟨⟨by decide +kernel, by decide +kernel⟩, List.mem_of_getElem? (i := 426) (by decide +kernel), List.mem_of_getElem? (i := 503) (by decide +kernel), List.mem_of_getElem? (i := 504) (by decide +kernel)⟩
theorem lw_p10 : lw_okq (⟨"BoxBindingsModel", "leastOf", "(II)I"⟩, 3) := ⟨⟨by decide +kernel, by decide +kernel⟩, List.mem_of_getElem? (i := 426) (by decide +kernel), List.mem_of_getElem? (i := 507) (by decide +kernel), List.mem_of_getElem? (i := 508) (by decide +kernel)⟩
theorem lw_p11 : lw_okq (⟨"BoxBindingsModel", "make", "(IIIII)V"⟩, 3) := ⟨⟨by decide +kernel, by decide +kernel⟩, List.mem_of_getElem? (i := 426) (by decide +kernel), List.mem_of_getElem? (i := 511) (by decide +kernel), List.mem_of_getElem? (i := 512) (by decide +kernel)⟩
theorem lw_p12 : lw_okq (⟨"BoxBindingsModel", "receive", "(IIII)I"⟩, 3) := ⟨⟨by decide +kernel, by decide +kernel⟩, List.mem_of_getElem? (i := 426) (by decide +kernel), List.mem_of_getElem? (i := 522) (by decide +kernel), List.mem_of_getElem? (i := 523) (by decide +kernel)⟩
theorem lw_p13 : lw_okq (⟨"BoxBindingsModel", "whyNot", "(III)I"⟩, 3) := ⟨⟨by decide +kernel, by decide +kernel⟩, List.mem_of_getElem? (i := 426) (by decide +kernel), List.mem_of_getElem? (i := 526) (by decide +kernel), List.mem_of_getElem? (i := 527) (by decide +kernel)⟩
theorem lw_p14 : lw_okq (⟨"BoxBindingsModel", "insideOf", "(I)I"⟩, 3) := ⟨⟨by decide +kernel, by decide +kernel⟩, List.mem_of_getElem? (i := 426) (by decide +kernel), List.mem_of_getElem? (i := 530) (by decide +kernel), List.mem_of_getElem? (i := 531) (by decide +kernel)⟩
theorem lw_p15 : lw_okq (⟨"BoxBindingsModel", "isKnown", "(I)Z"⟩, 3) := ⟨⟨by decide +kernel, by decide +kernel⟩, List.mem_of_getElem? (i := 426) (by decide +kernel), List.mem_of_getElem? (i := 542) (by decide +kernel), List.mem_of_getElem? (i := 543) (by decide +kernel)⟩
def lw_privs_1 : List (MethodName × Nat) := [(⟨"BoxBindings", "ruleAt", "(I)I"⟩, 3), (⟨"BoxBindingsModel", "isLent", "(I)Z"⟩, 3), (⟨"BoxBindingsModel", "end", "(I)V"⟩, 3), (⟨"BoxBindingsModel", "lapse", "()I"⟩, 3), (⟨"BoxBindingsModel", "endOf", "(I)I"⟩, 3), (⟨"BoxBindingsModel", "send", "(IIIII)I"⟩, 3), (⟨"BoxBindingsModel", "bindingOf", "(IIII)I"⟩, 3), (⟨"BoxBindingsModel", "chosen", "(II)I"⟩, 3), (⟨"BoxBindingsModel", "blockOf", "(I)I"⟩, 3), (⟨"BoxBindingsModel", "fits", "(II)Z"⟩, 3), (⟨"BoxBindingsModel", "leastOf", "(II)I"⟩, 3), (⟨"BoxBindingsModel", "make", "(IIIII)V"⟩, 3), (⟨"BoxBindingsModel", "receive", "(IIII)I"⟩, 3), (⟨"BoxBindingsModel", "whyNot", "(III)I"⟩, 3), (⟨"BoxBindingsModel", "insideOf", "(I)I"⟩, 3), (⟨"BoxBindingsModel", "isKnown", "(I)Z"⟩, 3)]
theorem lw_r1 : ∀ q ∈ lw_privs_1, lw_okq q := List.forall_mem_cons.mpr ⟨lw_p0, List.forall_mem_cons.mpr ⟨lw_p1, List.forall_mem_cons.mpr ⟨lw_p2, List.forall_mem_cons.mpr ⟨lw_p3, List.forall_mem_cons.mpr ⟨lw_p4, List.forall_mem_cons.mpr ⟨lw_p5, List.forall_mem_cons.mpr ⟨lw_p6, List.forall_mem_cons.mpr ⟨lw_p7, List.forall_mem_cons.mpr ⟨lw_p8, List.forall_mem_cons.mpr ⟨lw_p9, List.forall_mem_cons.mpr ⟨lw_p10, List.forall_mem_cons.mpr ⟨lw_p11, List.forall_mem_cons.mpr ⟨lw_p12, List.forall_mem_cons.mpr ⟨lw_p13, List.forall_mem_cons.mpr ⟨lw_p14, List.forall_mem_cons.mpr ⟨lw_p15, fun _ h => absurd h List.not_mem_nil⟩⟩⟩⟩⟩⟩⟩⟩⟩⟩⟩⟩⟩⟩⟩⟩
theorem lw_p16 : lw_okq (⟨"BoxBindingsModel", "hold", "(II)I"⟩, 3) := ⟨⟨by decide +kernel, by decide +kernel⟩, List.mem_of_getElem? (i := 426) (by decide +kernel), List.mem_of_getElem? (i := 546) (by decide +kernel), List.mem_of_getElem? (i := 547) (by decide +kernel)⟩
theorem lw_p17 : lw_okq (⟨"BoxBindingsModel", "isHeld", "(II)Z"⟩, 3) := ⟨⟨by decide +kernel, by decide +kernel⟩, List.mem_of_getElem? (i := 426) (by decide +kernel), List.mem_of_getElem? (i := 550) (by decide +kernel), List.mem_of_getElem? (i := 551) (by decide +kernel)⟩
theorem lw_p18 : lw_okq (⟨"BoxBindingsModel", "heldMany", "()I"⟩, 3) := ⟨⟨by decide +kernel, by decide +kernel⟩, List.mem_of_getElem? (i := 426) (by decide +kernel), List.mem_of_getElem? (i := 554) (by decide +kernel), List.mem_of_getElem? (i := 555) (by decide +kernel)⟩
theorem lw_p19 : lw_okq (⟨"BoxBindingsModel", "first", "(IIII)I"⟩, 3) := ⟨⟨by decide +kernel, by decide +kernel⟩, List.mem_of_getElem? (i := 426) (by decide +kernel), List.mem_of_getElem? (i := 558) (by decide +kernel), List.mem_of_getElem? (i := 559) (by decide +kernel)⟩
theorem lw_p20 : lw_okq (⟨"BoxBindingsModel", "letGo", "(I)I"⟩, 3) := ⟨⟨by decide +kernel, by decide +kernel⟩, List.mem_of_getElem? (i := 426) (by decide +kernel), List.mem_of_getElem? (i := 562) (by decide +kernel), List.mem_of_getElem? (i := 563) (by decide +kernel)⟩
theorem lw_p21 : lw_okq (⟨"BoxBindingsModel", "toldOf", "(II)I"⟩, 3) := ⟨⟨by decide +kernel, by decide +kernel⟩, List.mem_of_getElem? (i := 426) (by decide +kernel), List.mem_of_getElem? (i := 578) (by decide +kernel), List.mem_of_getElem? (i := 579) (by decide +kernel)⟩
theorem lw_p22 : lw_okq (⟨"BoxBindingsModel", "sentMany", "(I)I"⟩, 3) := ⟨⟨by decide +kernel, by decide +kernel⟩, List.mem_of_getElem? (i := 426) (by decide +kernel), List.mem_of_getElem? (i := 582) (by decide +kernel), List.mem_of_getElem? (i := 583) (by decide +kernel)⟩
theorem lw_p23 : lw_okq (⟨"BoxBindingsModel", "bindingsOf", "(I)I"⟩, 3) := ⟨⟨by decide +kernel, by decide +kernel⟩, List.mem_of_getElem? (i := 426) (by decide +kernel), List.mem_of_getElem? (i := 610) (by decide +kernel), List.mem_of_getElem? (i := 611) (by decide +kernel)⟩
theorem lw_p24 : lw_okq (⟨"BoxBindingsModel", "blocksOf", "(I)I"⟩, 3) := ⟨⟨by decide +kernel, by decide +kernel⟩, List.mem_of_getElem? (i := 426) (by decide +kernel), List.mem_of_getElem? (i := 614) (by decide +kernel), List.mem_of_getElem? (i := 615) (by decide +kernel)⟩
theorem lw_p25 : lw_okq (⟨"BoxBindingsModel", "roomFor", "(II)I"⟩, 3) := ⟨⟨by decide +kernel, by decide +kernel⟩, List.mem_of_getElem? (i := 426) (by decide +kernel), List.mem_of_getElem? (i := 618) (by decide +kernel), List.mem_of_getElem? (i := 619) (by decide +kernel)⟩
theorem lw_p26 : lw_okq (⟨"BoxBindingsModel", "lentMany", "()I"⟩, 3) := ⟨⟨by decide +kernel, by decide +kernel⟩, List.mem_of_getElem? (i := 426) (by decide +kernel), List.mem_of_getElem? (i := 638) (by decide +kernel), List.mem_of_getElem? (i := 639) (by decide +kernel)⟩
theorem lw_p27 : lw_okq (⟨"BoxBindingsModel", "knownMany", "()I"⟩, 3) := ⟨⟨by decide +kernel, by decide +kernel⟩, List.mem_of_getElem? (i := 426) (by decide +kernel), List.mem_of_getElem? (i := 645) (by decide +kernel), List.mem_of_getElem? (i := 646) (by decide +kernel)⟩
def lw_privs_2 : List (MethodName × Nat) := [(⟨"BoxBindingsModel", "hold", "(II)I"⟩, 3), (⟨"BoxBindingsModel", "isHeld", "(II)Z"⟩, 3), (⟨"BoxBindingsModel", "heldMany", "()I"⟩, 3), (⟨"BoxBindingsModel", "first", "(IIII)I"⟩, 3), (⟨"BoxBindingsModel", "letGo", "(I)I"⟩, 3), (⟨"BoxBindingsModel", "toldOf", "(II)I"⟩, 3), (⟨"BoxBindingsModel", "sentMany", "(I)I"⟩, 3), (⟨"BoxBindingsModel", "bindingsOf", "(I)I"⟩, 3), (⟨"BoxBindingsModel", "blocksOf", "(I)I"⟩, 3), (⟨"BoxBindingsModel", "roomFor", "(II)I"⟩, 3), (⟨"BoxBindingsModel", "lentMany", "()I"⟩, 3), (⟨"BoxBindingsModel", "knownMany", "()I"⟩, 3)]
theorem lw_r2 : ∀ q ∈ lw_privs_2, lw_okq q := List.forall_mem_cons.mpr ⟨lw_p16, List.forall_mem_cons.mpr ⟨lw_p17, List.forall_mem_cons.mpr ⟨lw_p18, List.forall_mem_cons.mpr ⟨lw_p19, List.forall_mem_cons.mpr ⟨lw_p20, List.forall_mem_cons.mpr ⟨lw_p21, List.forall_mem_cons.mpr ⟨lw_p22, List.forall_mem_cons.mpr ⟨lw_p23, List.forall_mem_cons.mpr ⟨lw_p24, List.forall_mem_cons.mpr ⟨lw_p25, List.forall_mem_cons.mpr ⟨lw_p26, List.forall_mem_cons.mpr ⟨lw_p27, fun _ h => absurd h List.not_mem_nil⟩⟩⟩⟩⟩⟩⟩⟩⟩⟩⟩⟩
def lw_privs : List (MethodName × Nat) := lw_privs_1 ++ (lw_privs_2)
def lw_tbl : List Cond := k2_sels lw_privs ++ tables_1
theorem lw_privs_ok : ∀ q ∈ lw_privs, lw_okq q := by
  show ∀ q ∈ lw_privs_1 ++ (lw_privs_2), lw_okq q
  exact List.forall_mem_append.mpr ⟨lw_r1, lw_r2⟩
end
section
def RX0 : String := "BoxBindings$Bindings"
def TX0 : u_T := fun k => match k with
  | 0 => ("BoxBindings$Bindings", "inner", "[I", true)
  | 1 => ("BoxBindings$Bindings", "is", "[I", true)
  | 2 => ("BoxBindings$Bindings", "used", "[I", true)
  | 3 => ("BoxBindings$Bindings", "onlyRemote", "[I", true)
  | 4 => ("BoxBindings$Bindings", "onlyPort", "[I", true)
  | _ => ("BoxBindings$Bindings", "sentBits", "[I", true)
def tyX0 : Nat → FieldType := fun k => match k with
  | 0 => .array .int
  | 1 => .array .int
  | 2 => .array .int
  | 3 => .array .int
  | 4 => .array .int
  | _ => .array .int
abbrev wsX00 : List Cond := u_ws RX0 TX0 6
theorem nmX0 : ∀ a, a < 6 → ∀ b, b < 6 → a ≠ b → (TX0 a).2.1 ≠ (TX0 b).2.1 := by decide +kernel
theorem tyX0_ok : ∀ k, k < 6 → parseFieldDescriptor (TX0 k).2.2.1 = some (tyX0 k) := by decide +kernel
abbrev cX0_init : ByteArray := prog_2_method_1_code
def yX0_init : MethodName := ⟨RX0, "<init>", "()V"⟩
abbrev cX0_isLent : ByteArray := prog_2_method_2_code
def yX0_isLent : MethodName := ⟨RX0, "isLent", "(I)Z"⟩
abbrev cX0_hostOf : ByteArray := prog_2_method_3_code
def yX0_hostOf : MethodName := ⟨RX0, "hostOf", "(I)I"⟩
abbrev cX0_seek : ByteArray := prog_2_method_4_code
def yX0_seek : MethodName := ⟨RX0, "seek", "(III)I"⟩
abbrev cX0_isFor : ByteArray := prog_2_method_5_code
def yX0_isFor : MethodName := ⟨RX0, "isFor", "(III)Z"⟩
abbrev cX0_lend : ByteArray := prog_2_method_6_code
def yX0_lend : MethodName := ⟨RX0, "lend", "(IIII)V"⟩
abbrev cX0_unlend : ByteArray := prog_2_method_7_code
def yX0_unlend : MethodName := ⟨RX0, "unlend", "(I)V"⟩
abbrev cX0_markSent : ByteArray := prog_2_method_8_code
def yX0_markSent : MethodName := ⟨RX0, "markSent", "(III)V"⟩
abbrev cX0_isSent : ByteArray := prog_2_method_9_code
def yX0_isSent : MethodName := ⟨RX0, "isSent", "(III)Z"⟩
abbrev cX0_isAnySent : ByteArray := prog_2_method_10_code
def yX0_isAnySent : MethodName := ⟨RX0, "isAnySent", "(II)Z"⟩
abbrev cX0_countSent : ByteArray := prog_2_method_11_code
def yX0_countSent : MethodName := ⟨RX0, "countSent", "(I)I"⟩
abbrev cX0_countAll : ByteArray := prog_2_method_12_code
def yX0_countAll : MethodName := ⟨RX0, "countAll", "()I"⟩
abbrev cX0_countOfHost : ByteArray := prog_2_method_13_code
def yX0_countOfHost : MethodName := ⟨RX0, "countOfHost", "(I)I"⟩
abbrev cX0_holderOf : ByteArray := prog_2_method_14_code
def yX0_holderOf : MethodName := ⟨RX0, "holderOf", "(I)I"⟩
abbrev cX0_blocksOf : ByteArray := prog_2_method_15_code
def yX0_blocksOf : MethodName := ⟨RX0, "blocksOf", "(I)I"⟩
abbrev cX0_countFreeBlocks : ByteArray := prog_2_method_16_code
def yX0_countFreeBlocks : MethodName := ⟨RX0, "countFreeBlocks", "()I"⟩
abbrev cX0_copyBindings : ByteArray := prog_2_method_17_code
def yX0_copyBindings : MethodName := ⟨RX0, "copyBindings", "(LBoxBindings$Bindings;)V"⟩
def RX1 : String := "BoxBindings$Box"
def TX1 : u_T := fun k => match k with
  | 0 => ("BoxBindings$Box", "rules", "[I", true)
  | 1 => ("BoxBindings$Box", "lent", "LBoxBindings$Bindings;", true)
  | 2 => ("BoxBindings$Box", "parts", "LBoxBindings$Packets;", true)
  | _ => ("BoxBindings$Box", "time", "I", false)
def tyX1 : Nat → FieldType := fun k => match k with
  | 0 => .array .int
  | 1 => .object "BoxBindings$Bindings"
  | 2 => .object "BoxBindings$Packets"
  | _ => .int
abbrev wsX10 : List Cond := u_ws RX1 TX1 4
theorem nmX1 : ∀ a, a < 4 → ∀ b, b < 4 → a ≠ b → (TX1 a).2.1 ≠ (TX1 b).2.1 := by decide +kernel
theorem tyX1_ok : ∀ k, k < 4 → parseFieldDescriptor (TX1 k).2.2.1 = some (tyX1 k) := by decide +kernel
abbrev cX1_init : ByteArray := prog_3_method_1_code
def yX1_init : MethodName := ⟨RX1, "<init>", "()V"⟩
abbrev cX1_setRule : ByteArray := prog_3_method_2_code
def yX1_setRule : MethodName := ⟨RX1, "setRule", "(II)I"⟩
abbrev cX1_goOut : ByteArray := prog_3_method_3_code
def yX1_goOut : MethodName := ⟨RX1, "goOut", "(IIIII)I"⟩
abbrev cX1_makeBinding : ByteArray := prog_3_method_4_code
def yX1_makeBinding : MethodName := ⟨RX1, "makeBinding", "(IIII)I"⟩
abbrev cX1_comeIn : ByteArray := prog_3_method_5_code
def yX1_comeIn : MethodName := ⟨RX1, "comeIn", "(IIII)I"⟩
abbrev cX1_reasonAgainst : ByteArray := prog_3_method_6_code
def yX1_reasonAgainst : MethodName := ⟨RX1, "reasonAgainst", "(III)I"⟩
abbrev cX1_takeFirstPart : ByteArray := prog_3_method_7_code
def yX1_takeFirstPart : MethodName := ⟨RX1, "takeFirstPart", "(IIII)I"⟩
abbrev cX1_takeOtherPart : ByteArray := prog_3_method_8_code
def yX1_takeOtherPart : MethodName := ⟨RX1, "takeOtherPart", "(II)I"⟩
abbrev cX1_passTicks : ByteArray := prog_3_method_9_code
def yX1_passTicks : MethodName := ⟨RX1, "passTicks", "(I)I"⟩
abbrev cX1_choose : ByteArray := prog_3_method_10_code
def yX1_choose : MethodName := ⟨RX1, "choose", "(II)I"⟩
abbrev cX1_isFit : ByteArray := prog_3_method_11_code
def yX1_isFit : MethodName := ⟨RX1, "isFit", "(II)Z"⟩
abbrev cX1_leastFitOfHolder : ByteArray := prog_3_method_12_code
def yX1_leastFitOfHolder : MethodName := ⟨RX1, "leastFitOfHolder", "(II)I"⟩
abbrev cX1_leastFitOfBlock : ByteArray := prog_3_method_13_code
def yX1_leastFitOfBlock : MethodName := ⟨RX1, "leastFitOfBlock", "(II)I"⟩
abbrev cX1_tellOfBinding : ByteArray := prog_3_method_14_code
def yX1_tellOfBinding : MethodName := ⟨RX1, "tellOfBinding", "(II)I"⟩
abbrev cX1_tellOfHost : ByteArray := prog_3_method_15_code
def yX1_tellOfHost : MethodName := ⟨RX1, "tellOfHost", "(II)I"⟩
abbrev cX1_countFitFor : ByteArray := prog_3_method_16_code
def yX1_countFitFor : MethodName := ⟨RX1, "countFitFor", "(II)I"⟩
abbrev cX1_lifeOf : ByteArray := prog_3_method_17_code
def yX1_lifeOf : MethodName := ⟨RX1, "lifeOf", "(I)I"⟩
abbrev cX1_ticksLeft : ByteArray := prog_3_method_18_code
def yX1_ticksLeft : MethodName := ⟨RX1, "ticksLeft", "(I)I"⟩
abbrev cX1_leastTicksLeft : ByteArray := prog_3_method_19_code
def yX1_leastTicksLeft : MethodName := ⟨RX1, "leastTicksLeft", "()I"⟩
abbrev cX1_endLapsed : ByteArray := prog_3_method_20_code
def yX1_endLapsed : MethodName := ⟨RX1, "endLapsed", "()I"⟩
abbrev cX1_endBindingsOf : ByteArray := prog_3_method_21_code
def yX1_endBindingsOf : MethodName := ⟨RX1, "endBindingsOf", "(I)I"⟩
abbrev cX1_endAll : ByteArray := prog_3_method_22_code
def yX1_endAll : MethodName := ⟨RX1, "endAll", "()V"⟩
abbrev cX1_endBinding : ByteArray := prog_3_method_23_code
def yX1_endBinding : MethodName := ⟨RX1, "endBinding", "(I)V"⟩
abbrev cX1_becomeLike : ByteArray := prog_3_method_24_code
def yX1_becomeLike : MethodName := ⟨RX1, "becomeLike", "(LBoxBindings$Box;)V"⟩
def RX2 : String := "BoxBindings$Packets"
def TX2 : u_T := fun k => match k with
  | 0 => ("BoxBindings$Packets", "knownBy", "[I", true)
  | 1 => ("BoxBindings$Packets", "knownSince", "[I", true)
  | 2 => ("BoxBindings$Packets", "held", "[I", true)
  | _ => ("BoxBindings$Packets", "heldSince", "[I", true)
def tyX2 : Nat → FieldType := fun k => match k with
  | 0 => .array .int
  | 1 => .array .int
  | 2 => .array .int
  | _ => .array .int
abbrev wsX20 : List Cond := u_ws RX2 TX2 4
theorem nmX2 : ∀ a, a < 4 → ∀ b, b < 4 → a ≠ b → (TX2 a).2.1 ≠ (TX2 b).2.1 := by decide +kernel
theorem tyX2_ok : ∀ k, k < 4 → parseFieldDescriptor (TX2 k).2.2.1 = some (tyX2 k) := by decide +kernel
abbrev cX2_init : ByteArray := prog_4_method_1_code
def yX2_init : MethodName := ⟨RX2, "<init>", "()V"⟩
abbrev cX2_isKnown : ByteArray := prog_4_method_2_code
def yX2_isKnown : MethodName := ⟨RX2, "isKnown", "(I)Z"⟩
abbrev cX2_know : ByteArray := prog_4_method_3_code
def yX2_know : MethodName := ⟨RX2, "know", "(III)V"⟩
abbrev cX2_forget : ByteArray := prog_4_method_4_code
def yX2_forget : MethodName := ⟨RX2, "forget", "(I)V"⟩
abbrev cX2_forgetAllOf : ByteArray := prog_4_method_5_code
def yX2_forgetAllOf : MethodName := ⟨RX2, "forgetAllOf", "(I)V"⟩
abbrev cX2_hold : ByteArray := prog_4_method_6_code
def yX2_hold : MethodName := ⟨RX2, "hold", "(III)I"⟩
abbrev cX2_placeOf : ByteArray := prog_4_method_7_code
def yX2_placeOf : MethodName := ⟨RX2, "placeOf", "(I)I"⟩
abbrev cX2_releaseHeld : ByteArray := prog_4_method_8_code
def yX2_releaseHeld : MethodName := ⟨RX2, "releaseHeld", "(I)I"⟩
abbrev cX2_endOld : ByteArray := prog_4_method_9_code
def yX2_endOld : MethodName := ⟨RX2, "endOld", "(I)V"⟩
abbrev cX2_countKnown : ByteArray := prog_4_method_10_code
def yX2_countKnown : MethodName := ⟨RX2, "countKnown", "()I"⟩
abbrev cX2_countHeld : ByteArray := prog_4_method_11_code
def yX2_countHeld : MethodName := ⟨RX2, "countHeld", "()I"⟩
abbrev cX2_copyPackets : ByteArray := prog_4_method_12_code
def yX2_copyPackets : MethodName := ⟨RX2, "copyPackets", "(LBoxBindings$Packets;)V"⟩
def RX3 : String := "BoxBindings"
def TX3 : u_T := fun k => match k with
  | 0 => ("BoxBindings", "now", "LBoxBindings$Box;", true)
  | 1 => ("BoxBindings", "images", "[LBoxBindings$Box;", true)
  | _ => ("BoxBindings", "kept", "[Z", true)
def tyX3 : Nat → FieldType := fun k => match k with
  | 0 => .object "BoxBindings$Box"
  | 1 => .array (.object "BoxBindings$Box")
  | _ => .array .boolean
abbrev wsX30 : List Cond := u_ws RX3 TX3 3
theorem nmX3 : ∀ a, a < 3 → ∀ b, b < 3 → a ≠ b → (TX3 a).2.1 ≠ (TX3 b).2.1 := by decide +kernel
theorem tyX3_ok : ∀ k, k < 3 → parseFieldDescriptor (TX3 k).2.2.1 = some (tyX3 k) := by decide +kernel
abbrev cX3_init : ByteArray := prog_1_method_1_code
def yX3_init : MethodName := ⟨RX3, "<init>", "()V"⟩
abbrev cX3_rule : ByteArray := prog_1_method_2_code
def yX3_rule : MethodName := ⟨RX3, "rule", "(II)I"⟩
abbrev cX3_out : ByteArray := prog_1_method_3_code
def yX3_out : MethodName := ⟨RX3, "out", "(IIIII)I"⟩
abbrev cX3_in : ByteArray := prog_1_method_4_code
def yX3_in : MethodName := ⟨RX3, "in", "(IIII)I"⟩
abbrev cX3_turn : ByteArray := prog_1_method_5_code
def yX3_turn : MethodName := ⟨RX3, "turn", "(IIII)I"⟩
abbrev cX3_part : ByteArray := prog_1_method_6_code
def yX3_part : MethodName := ⟨RX3, "part", "(IIIII)I"⟩
abbrev cX3_tick : ByteArray := prog_1_method_7_code
def yX3_tick : MethodName := ⟨RX3, "tick", "(I)I"⟩
abbrev cX3_drop : ByteArray := prog_1_method_8_code
def yX3_drop : MethodName := ⟨RX3, "drop", "(I)I"⟩
abbrev cX3_of : ByteArray := prog_1_method_9_code
def yX3_of : MethodName := ⟨RX3, "of", "(II)I"⟩
abbrev cX3_sent : ByteArray := prog_1_method_10_code
def yX3_sent : MethodName := ⟨RX3, "sent", "(III)I"⟩
abbrev cX3_find : ByteArray := prog_1_method_11_code
def yX3_find : MethodName := ⟨RX3, "find", "(IIII)I"⟩
abbrev cX3_next : ByteArray := prog_1_method_12_code
def yX3_next : MethodName := ⟨RX3, "next", "(II)I"⟩
abbrev cX3_why : ByteArray := prog_1_method_13_code
def yX3_why : MethodName := ⟨RX3, "why", "(III)I"⟩
abbrev cX3_block : ByteArray := prog_1_method_14_code
def yX3_block : MethodName := ⟨RX3, "block", "(I)I"⟩
abbrev cX3_host : ByteArray := prog_1_method_15_code
def yX3_host : MethodName := ⟨RX3, "host", "(II)I"⟩
abbrev cX3_soon : ByteArray := prog_1_method_16_code
def yX3_soon : MethodName := ⟨RX3, "soon", "()I"⟩
abbrev cX3_image : ByteArray := prog_1_method_17_code
def yX3_image : MethodName := ⟨RX3, "image", "(I)I"⟩
abbrev cX3_restore : ByteArray := prog_1_method_18_code
def yX3_restore : MethodName := ⟨RX3, "restore", "(I)I"⟩
abbrev cX3_count : ByteArray := prog_1_method_19_code
def yX3_count : MethodName := ⟨RX3, "count", "(I)I"⟩
abbrev cX3_ruleAt : ByteArray := prog_1_method_20_code
def yX3_ruleAt : MethodName := ⟨RX3, "ruleAt", "(I)I"⟩
abbrev cX3_isBelow : ByteArray := prog_1_method_21_code
def yX3_isBelow : MethodName := ⟨RX3, "isBelow", "(II)Z"⟩
abbrev cX3_isRemotePort : ByteArray := prog_1_method_22_code
def yX3_isRemotePort : MethodName := ⟨RX3, "isRemotePort", "(II)Z"⟩
def RX4 : String := "BoxBindingsModel"
def TX4 : u_T := fun k => match k with
  | 0 => ("BoxBindingsModel", "state", "[I", true)
  | 1 => ("BoxBindingsModel", "images", "[I", true)
  | _ => ("BoxBindingsModel", "isKept", "[Z", true)
def tyX4 : Nat → FieldType := fun k => match k with
  | 0 => .array .int
  | 1 => .array .int
  | _ => .array .boolean
abbrev wsX40 : List Cond := u_ws RX4 TX4 3
theorem nmX4 : ∀ a, a < 3 → ∀ b, b < 3 → a ≠ b → (TX4 a).2.1 ≠ (TX4 b).2.1 := by decide +kernel
theorem tyX4_ok : ∀ k, k < 3 → parseFieldDescriptor (TX4 k).2.2.1 = some (tyX4 k) := by decide +kernel
abbrev cX4_init : ByteArray := prog_6_method_1_code
def yX4_init : MethodName := ⟨RX4, "<init>", "()V"⟩
abbrev cX4_isFrom : ByteArray := prog_6_method_2_code
def yX4_isFrom : MethodName := ⟨RX4, "isFrom", "(III)Z"⟩
abbrev cX4_isHost : ByteArray := prog_6_method_3_code
def yX4_isHost : MethodName := ⟨RX4, "isHost", "(I)Z"⟩
abbrev cX4_isPort : ByteArray := prog_6_method_4_code
def yX4_isPort : MethodName := ⟨RX4, "isPort", "(I)Z"⟩
abbrev cX4_isOuter : ByteArray := prog_6_method_5_code
def yX4_isOuter : MethodName := ⟨RX4, "isOuter", "(I)Z"⟩
abbrev cX4_isRemote : ByteArray := prog_6_method_6_code
def yX4_isRemote : MethodName := ⟨RX4, "isRemote", "(II)Z"⟩
abbrev cX4_isFlag : ByteArray := prog_6_method_7_code
def yX4_isFlag : MethodName := ⟨RX4, "isFlag", "(I)Z"⟩
abbrev cX4_isLent : ByteArray := prog_6_method_8_code
def yX4_isLent : MethodName := ⟨RX4, "isLent", "(I)Z"⟩
abbrev cX4_end : ByteArray := prog_6_method_9_code
def yX4_end : MethodName := ⟨RX4, "end", "(I)V"⟩
abbrev cX4_endOf : ByteArray := prog_6_method_10_code
def yX4_endOf : MethodName := ⟨RX4, "endOf", "(I)I"⟩
abbrev cX4_lapse : ByteArray := prog_6_method_11_code
def yX4_lapse : MethodName := ⟨RX4, "lapse", "()I"⟩
abbrev cX4_least : ByteArray := prog_6_method_12_code
def yX4_least : MethodName := ⟨RX4, "least", "(I)I"⟩
abbrev cX4_most : ByteArray := prog_6_method_13_code
def yX4_most : MethodName := ⟨RX4, "most", "(I)I"⟩
abbrev cX4_rule : ByteArray := prog_6_method_14_code
def yX4_rule : MethodName := ⟨RX4, "rule", "(II)I"⟩
abbrev cX4_bindingOf : ByteArray := prog_6_method_15_code
def yX4_bindingOf : MethodName := ⟨RX4, "bindingOf", "(IIII)I"⟩
abbrev cX4_blockOf : ByteArray := prog_6_method_16_code
def yX4_blockOf : MethodName := ⟨RX4, "blockOf", "(I)I"⟩
abbrev cX4_fits : ByteArray := prog_6_method_17_code
def yX4_fits : MethodName := ⟨RX4, "fits", "(II)Z"⟩
abbrev cX4_leastOf : ByteArray := prog_6_method_18_code
def yX4_leastOf : MethodName := ⟨RX4, "leastOf", "(II)I"⟩
abbrev cX4_chosen : ByteArray := prog_6_method_19_code
def yX4_chosen : MethodName := ⟨RX4, "chosen", "(II)I"⟩
abbrev cX4_make : ByteArray := prog_6_method_20_code
def yX4_make : MethodName := ⟨RX4, "make", "(IIIII)V"⟩
abbrev cX4_send : ByteArray := prog_6_method_21_code
def yX4_send : MethodName := ⟨RX4, "send", "(IIIII)I"⟩
abbrev cX4_out : ByteArray := prog_6_method_22_code
def yX4_out : MethodName := ⟨RX4, "out", "(IIIII)I"⟩
abbrev cX4_whyNot : ByteArray := prog_6_method_23_code
def yX4_whyNot : MethodName := ⟨RX4, "whyNot", "(III)I"⟩
abbrev cX4_insideOf : ByteArray := prog_6_method_24_code
def yX4_insideOf : MethodName := ⟨RX4, "insideOf", "(I)I"⟩
abbrev cX4_receive : ByteArray := prog_6_method_25_code
def yX4_receive : MethodName := ⟨RX4, "receive", "(IIII)I"⟩
abbrev cX4_in : ByteArray := prog_6_method_26_code
def yX4_in : MethodName := ⟨RX4, "in", "(IIII)I"⟩
abbrev cX4_turn : ByteArray := prog_6_method_27_code
def yX4_turn : MethodName := ⟨RX4, "turn", "(IIII)I"⟩
abbrev cX4_isKnown : ByteArray := prog_6_method_28_code
def yX4_isKnown : MethodName := ⟨RX4, "isKnown", "(I)Z"⟩
abbrev cX4_isHeld : ByteArray := prog_6_method_29_code
def yX4_isHeld : MethodName := ⟨RX4, "isHeld", "(II)Z"⟩
abbrev cX4_heldMany : ByteArray := prog_6_method_30_code
def yX4_heldMany : MethodName := ⟨RX4, "heldMany", "()I"⟩
abbrev cX4_letGo : ByteArray := prog_6_method_31_code
def yX4_letGo : MethodName := ⟨RX4, "letGo", "(I)I"⟩
abbrev cX4_first : ByteArray := prog_6_method_32_code
def yX4_first : MethodName := ⟨RX4, "first", "(IIII)I"⟩
abbrev cX4_hold : ByteArray := prog_6_method_33_code
def yX4_hold : MethodName := ⟨RX4, "hold", "(II)I"⟩
abbrev cX4_part : ByteArray := prog_6_method_34_code
def yX4_part : MethodName := ⟨RX4, "part", "(IIIII)I"⟩
abbrev cX4_tick : ByteArray := prog_6_method_35_code
def yX4_tick : MethodName := ⟨RX4, "tick", "(I)I"⟩
abbrev cX4_drop : ByteArray := prog_6_method_36_code
def yX4_drop : MethodName := ⟨RX4, "drop", "(I)I"⟩
abbrev cX4_sentMany : ByteArray := prog_6_method_37_code
def yX4_sentMany : MethodName := ⟨RX4, "sentMany", "(I)I"⟩
abbrev cX4_toldOf : ByteArray := prog_6_method_38_code
def yX4_toldOf : MethodName := ⟨RX4, "toldOf", "(II)I"⟩
abbrev cX4_of : ByteArray := prog_6_method_39_code
def yX4_of : MethodName := ⟨RX4, "of", "(II)I"⟩
abbrev cX4_sent : ByteArray := prog_6_method_40_code
def yX4_sent : MethodName := ⟨RX4, "sent", "(III)I"⟩
abbrev cX4_find : ByteArray := prog_6_method_41_code
def yX4_find : MethodName := ⟨RX4, "find", "(IIII)I"⟩
abbrev cX4_next : ByteArray := prog_6_method_42_code
def yX4_next : MethodName := ⟨RX4, "next", "(II)I"⟩
abbrev cX4_why : ByteArray := prog_6_method_43_code
def yX4_why : MethodName := ⟨RX4, "why", "(III)I"⟩
abbrev cX4_block : ByteArray := prog_6_method_44_code
def yX4_block : MethodName := ⟨RX4, "block", "(I)I"⟩
abbrev cX4_bindingsOf : ByteArray := prog_6_method_45_code
def yX4_bindingsOf : MethodName := ⟨RX4, "bindingsOf", "(I)I"⟩
abbrev cX4_blocksOf : ByteArray := prog_6_method_46_code
def yX4_blocksOf : MethodName := ⟨RX4, "blocksOf", "(I)I"⟩
abbrev cX4_roomFor : ByteArray := prog_6_method_47_code
def yX4_roomFor : MethodName := ⟨RX4, "roomFor", "(II)I"⟩
abbrev cX4_host : ByteArray := prog_6_method_48_code
def yX4_host : MethodName := ⟨RX4, "host", "(II)I"⟩
abbrev cX4_soon : ByteArray := prog_6_method_49_code
def yX4_soon : MethodName := ⟨RX4, "soon", "()I"⟩
abbrev cX4_image : ByteArray := prog_6_method_50_code
def yX4_image : MethodName := ⟨RX4, "image", "(I)I"⟩
abbrev cX4_restore : ByteArray := prog_6_method_51_code
def yX4_restore : MethodName := ⟨RX4, "restore", "(I)I"⟩
abbrev cX4_knownMany : ByteArray := prog_6_method_52_code
def yX4_knownMany : MethodName := ⟨RX4, "knownMany", "()I"⟩
abbrev cX4_lentMany : ByteArray := prog_6_method_53_code
def yX4_lentMany : MethodName := ⟨RX4, "lentMany", "()I"⟩
abbrev cX4_count : ByteArray := prog_6_method_54_code
def yX4_count : MethodName := ⟨RX4, "count", "(I)I"⟩
abbrev cX4_bits : ByteArray := prog_6_method_55_code
def yX4_bits : MethodName := ⟨RX4, "bits", "(I)I"⟩
def RJx8e188 : String := "java/lang/Cloneable"
def TJx8e188 : u_T := fun k => match k with
  | _ => ("", "", "", false)
def tyJx8e188 : Nat → FieldType := fun k => match k with
  | _ => .int
abbrev wsJx8e1880 : List Cond := u_ws RJx8e188 TJx8e188 0
theorem nmJx8e188 : ∀ a, a < 0 → ∀ b, b < 0 → a ≠ b → (TJx8e188 a).2.1 ≠ (TJx8e188 b).2.1 := by decide +kernel
theorem tyJx8e188_ok : ∀ k, k < 0 → parseFieldDescriptor (TJx8e188 k).2.2.1 = some (tyJx8e188 k) := by decide +kernel
def RJ6 : String := "java/lang/Integer"
def TJ6 : u_T := fun k => match k with
  | _ => ("", "", "", false)
def tyJ6 : Nat → FieldType := fun k => match k with
  | _ => .int
abbrev wsJ60 : List Cond := u_ws RJ6 TJ6 0
theorem nmJ6 : ∀ a, a < 0 → ∀ b, b < 0 → a ≠ b → (TJ6 a).2.1 ≠ (TJ6 b).2.1 := by decide +kernel
theorem tyJ6_ok : ∀ k, k < 0 → parseFieldDescriptor (TJ6 k).2.2.1 = some (tyJ6 k) := by decide +kernel
abbrev cJ6_bitCount_0f7a4 : ByteArray := prog_8_method_49_code
def yJ6_bitCount_0f7a4 : MethodName := ⟨RJ6, "bitCount", "(I)I"⟩
def RJ10 : String := "java/lang/System"
def TJ10 : u_T := fun k => match k with
  | _ => ("", "", "", false)
def tyJ10 : Nat → FieldType := fun k => match k with
  | _ => .int
abbrev wsJ100 : List Cond := u_ws RJ10 TJ10 0
theorem nmJ10 : ∀ a, a < 0 → ∀ b, b < 0 → a ≠ b → (TJ10 a).2.1 ≠ (TJ10 b).2.1 := by decide +kernel
theorem tyJ10_ok : ∀ k, k < 0 → parseFieldDescriptor (TJ10 k).2.2.1 = some (tyJ10 k) := by decide +kernel
def RJ7 : String := "java/util/Arrays"
def TJ7 : u_T := fun k => match k with
  | _ => ("", "", "", false)
def tyJ7 : Nat → FieldType := fun k => match k with
  | _ => .int
abbrev wsJ70 : List Cond := u_ws RJ7 TJ7 0
theorem nmJ7 : ∀ a, a < 0 → ∀ b, b < 0 → a ≠ b → (TJ7 a).2.1 ≠ (TJ7 b).2.1 := by decide +kernel
theorem tyJ7_ok : ∀ k, k < 0 → parseFieldDescriptor (TJ7 k).2.2.1 = some (tyJ7 k) := by decide +kernel
abbrev cJ7_fill_53178 : ByteArray := prog_10_method_103_code
def yJ7_fill_53178 : MethodName := ⟨RJ7, "fill", "([II)V"⟩
def RL : String := "BoxBindingsLaw"
abbrev cL_law : ByteArray := code
def yL_law : MethodName := ⟨RL, "law", "([I)Z"⟩
end
section
/-! the words of the tables that a contract may carry, one list for all methods -/
def gT : List Cond := lw_tbl.filter goodWord
theorem gT_in {w : Cond} (i : Nat) (h : lw_tbl[i]? = some w) (g : goodWord w = true) : w ∈ gT := List.mem_filter.mpr ⟨List.mem_of_getElem? h, g⟩
theorem gT_r (ws : List Cond) (ps : List Nat) (hp : ws = ps.filterMap (fun i => lw_tbl[i]?)) (h : ws.all goodWord = true) : ∀ w ∈ ws, w ∈ gT := by
  intro w hw
  have h1 := List.all_eq_true.mp h w hw
  rw [hp] at hw
  obtain ⟨i, -, hi⟩ := List.mem_filterMap.mp hw
  exact List.mem_filter.mpr ⟨List.mem_of_getElem? hi, h1⟩
theorem gT_tbl {w : Cond} (h : w ∈ gT) : w ∈ lw_tbl := (List.mem_filter.mp h).1
theorem gT_ok {w : Cond} (h : w ∈ gT) : (w.onTables && w.keeps) = true ∨ ∃ ty, w = .arrayClass ty := good_of_word (List.mem_filter.mp h).2
abbrev wY (y : MethodName) (cc : ByteArray) (n : Nat) (ret : Option FieldType) : List Cond := .code y cc n ret :: gT
abbrev EE : Type := va_G × ClassId × ClassId × ClassId
abbrev classes : List vw_C := [(RX0, TX0, 6), (RX1, TX1, 4), (RX2, TX2, 4), (RX3, TX3, 3), (RX4, TX4, 3)]
abbrev tysA (E : EE) : List (ClassId × FieldType) := [(E.2.1, .int), (E.2.2.1, .boolean), (E.2.2.2, .object "BoxBindings$Box")]
def KK (E : EE) (U : State) : Prop := va_K E.1 classes (tysA E) U
def rmD (d : Nat) : Room := { frames := d, cells := 0, slots := 0, locals := 27 * d }
def Gw (E : EE) (A : Nat → Prop) (s : State) (w : va_W) (H : Heap) (locs : List Loc) : Prop := va_P E.1 classes w H ∧ va_D A w ∧ va_S A s.heap H locs
def Cx (p : Program) (s : State) (m : MethodId) (args : Array Value) (meth : Method) (c : Code) (cc : ByteArray) (nL : Nat) (own : String) (E : EE) (A : Nat → Prop) : Prop :=
  p.tables.exec = Jvm.exec ∧ c.code = cc ∧ c.maxLocals = nL ∧ s.vm.findClass own = some m.cls ∧ (∀ w ∈ gT, w.before args s = true) ∧ KK E s ∧ (∀ q, s.heap.size ≤ q → A q) ∧ meth.locks = false
def CtP (E : EE) (sz : Nat) (av : List Value) (w : va_W) : Array Value → State → Prop := va_Pc av (fun U => U.heap.size = sz ∧ va_P E.1 classes w U.heap ∧ KK E U ∧ va_D (fun _ => True) w)
def CtQ (E : EE) (A : Nat → Prop) (r : Int32) (w' : va_W) : Array Value → State → Outcome → State → Prop := va_Qi (fun r' (_ : Unit) => r' = r) (fun _ t => va_P E.1 classes w' t.heap ∧ KK E t ∧ va_D A w') A
def CvQ (E : EE) (A : Nat → Prop) (w' : va_W) : Array Value → State → Outcome → State → Prop := va_Qv (fun (_ : Unit) => True) (fun _ t => va_P E.1 classes w' t.heap ∧ KK E t ∧ va_D A w') A
/-- a contract: the method answers r, the world w becomes w'; nothing is made -/
def Ct (l : Launch) (y : MethodName) (cc : ByteArray) (n : Nat) (ret : Option FieldType) (d : Nat) (E : EE) (av : List Value) (w : va_W) (r : Int32) (w' : va_W) : Prop :=
  ∀ sz, Met l y (wY y cc n ret) (rmD d) (CtP E sz av w) (CtQ E (va_A w sz) r w') 0 0 (va_A w sz)
def Cv (l : Launch) (y : MethodName) (cc : ByteArray) (n : Nat) (d : Nat) (E : EE) (av : List Value) (w : va_W) (w' : va_W) : Prop :=
  ∀ sz, Met l y (wY y cc n none) (rmD d) (CtP E sz av w) (CvQ E (va_A w sz) w') 0 0 (va_A w sz)
theorem CtP_blind {E : EE} {sz : Nat} {av : List Value} {w : va_W} : FrameBlind (CtP E sz av w) := fun a U g mk q => by
  obtain ⟨q0, q1, qP, qK, qD⟩ := q
  exact ⟨q0, q1, qP, va_K.moved (u := U) (U := U.calling g mk a) (Vm.Alike.refl U.vm) qK, qD⟩
theorem Ct_mk {l : Launch} {y : MethodName} {cc : ByteArray} {n : Nat} {ret : Option FieldType} {d : Nat} {E : EE} {av : List Value} {w : va_W} {r : Int32} {w' : va_W} (own : String) (ho : y.cls = own) (hy : plainName y.cls = true) (hn : (lg_sl av).length ≤ n)
    (body : ∀ (p : Program) (e : Env) (s : State) (m : MethodId) (below : List Frame) (meth : Method) (c : Code) (A : Nat → Prop) (ls : Array Slot), Cx p s m av.toArray meth c cc n own E A → meth.sig.returnType = ret → Gw E A s w s.heap [] → lv_has ls n (lv_args 0 av) → W p l e (rmD d) s m av.toArray below meth c s.heap [] 0 0 (MQ below (CtQ E A r w') av.toArray s 0 0 A) (F0 m 0 ls [])) : Ct l y cc n ret d E av w r w' := by
  intro sz
  refine Met.ofW (cc := cc) (maxL := n) (ret := ret) hy rfl ?_
  intro p e s m args below meth c s₁ B hml hv
  obtain ⟨rfl, hsz, hP, hK, hD0⟩ := hv
  subst hsz
  subst ho
  have hl := lv_entry av (n := n) hn
  rw [lg_entry_eq]
  exact body p e s m below meth c _ _ ⟨B.exec, B.bytes, hml, findClass_of_methodNamed B.named, fun w hw => atoms_spec (ws := wY y cc n ret) B.pre w (List.mem_cons_of_mem _ hw), hK, fun q h => Or.inr h, B.notSynchronized⟩ B.returns ⟨hP, hD0.self, va_S.rf⟩ hl
theorem Cv_mk {l : Launch} {y : MethodName} {cc : ByteArray} {n : Nat} {d : Nat} {E : EE} {av : List Value} {w : va_W} {w' : va_W} (own : String) (ho : y.cls = own) (hy : plainName y.cls = true) (hn : (lg_sl av).length ≤ n)
    (body : ∀ (p : Program) (e : Env) (s : State) (m : MethodId) (below : List Frame) (meth : Method) (c : Code) (A : Nat → Prop) (ls : Array Slot), Cx p s m av.toArray meth c cc n own E A → meth.sig.returnType = none → Gw E A s w s.heap [] → lv_has ls n (lv_args 0 av) → W p l e (rmD d) s m av.toArray below meth c s.heap [] 0 0 (MQ below (CvQ E A w') av.toArray s 0 0 A) (F0 m 0 ls [])) : Cv l y cc n d E av w w' := by
  intro sz
  refine Met.ofW (cc := cc) (maxL := n) (ret := none) hy rfl ?_
  intro p e s m args below meth c s₁ B hml hv
  obtain ⟨rfl, hsz, hP, hK, hD0⟩ := hv
  subst hsz
  subst ho
  have hl := lv_entry av (n := n) hn
  rw [lg_entry_eq]
  exact body p e s m below meth c _ _ ⟨B.exec, B.bytes, hml, findClass_of_methodNamed B.named, fun w hw => atoms_spec (ws := wY y cc n none) B.pre w (List.mem_cons_of_mem _ hw), hK, fun q h => Or.inr h, B.notSynchronized⟩ B.returns ⟨hP, hD0.self, va_S.rf⟩ hl
/-- what a call needs of the tables -/
def CalV (own : String) (idx : Nat) (C : String) (y : MethodName) (cc : ByteArray) (n : Nat) (ret : Option FieldType) (k : Nat) : Prop :=
  (Cond.methodLink own idx y ∈ gT ∧ Cond.instanceMethod y ∈ gT ∧ Cond.selects C y y ∈ gT ∧ Cond.initialized C ∈ gT ∧ Cond.code y cc n ret ∈ gT) ∧ y.cls = C ∧ y.cls ≠ "java/lang/invoke/MethodHandle" ∧ y.cls ≠ "java/lang/invoke/VarHandle" ∧ (parseMethodDescriptor y.desc).map (fun d => d.parameters.length) = some k
def CalS (own : String) (idx : Nat) (y : MethodName) (cc : ByteArray) (n : Nat) (ret : Option FieldType) (k : Nat) : Prop :=
  (Cond.methodLink own idx y ∈ gT ∧ Cond.static y ∈ gT ∧ Cond.initialized y.cls ∈ gT ∧ Cond.code y cc n ret ∈ gT) ∧ y.cls ≠ "java/lang/invoke/MethodHandle" ∧ y.cls ≠ "java/lang/invoke/VarHandle" ∧ (parseMethodDescriptor y.desc).map (fun d => d.parameters.length) = some k
theorem gT_goodV {own : String} {idx : Nat} {C : String} {y : MethodName} {cc : ByteArray} {n : Nat} {ret : Option FieldType} (h : Cond.methodLink own idx y ∈ gT ∧ Cond.instanceMethod y ∈ gT ∧ Cond.selects C y y ∈ gT ∧ Cond.initialized C ∈ gT ∧ Cond.code y cc n ret ∈ gT) : GoodIn gT (wsV own idx C y (wY y cc n ret)) := by
  intro w hw
  have hg : w ∈ gT := by
    simp only [wsV, List.mem_append, List.mem_cons, List.not_mem_nil, or_false] at hw
    rcases hw with (rfl | rfl | rfl | rfl) | (rfl | hw)
    · exact h.1
    · exact h.2.1
    · exact h.2.2.1
    · exact h.2.2.2.1
    · exact h.2.2.2.2
    · exact hw
  exact ⟨hg, gT_ok hg⟩
theorem gT_goodS {own : String} {idx : Nat} {y : MethodName} {cc : ByteArray} {n : Nat} {ret : Option FieldType} (h : Cond.methodLink own idx y ∈ gT ∧ Cond.static y ∈ gT ∧ Cond.initialized y.cls ∈ gT ∧ Cond.code y cc n ret ∈ gT) : GoodIn gT (va_wsS own idx y (wY y cc n ret)) := by
  intro w hw
  have hg : w ∈ gT := by
    simp only [va_wsS, List.mem_append, List.mem_cons, List.not_mem_nil, or_false] at hw
    rcases hw with (rfl | rfl | rfl) | (rfl | hw)
    · exact h.1
    · exact h.2.1
    · exact h.2.2.1
    · exact h.2.2.2
    · exact hw
  exact ⟨hg, gT_ok hg⟩
section GR
variable {p : Program} {l : Launch} {e : Env} {R : Room} {s : State} {m : MethodId} {args : Array Value} {below : List Frame} {meth : Method} {c : Code} {H : Heap} {locs : List Loc} {cells slots : Nat} {Q : State → Prop}
variable {cc : ByteArray} {nL : Nat} {own : String} {E : EE} {A : Nat → Prop} {w w' : va_W} {pc : Nat} {ls : Array Slot} {rest stk : List Value} {a : Nat}
theorem g_ret {v r : Int32} {ty : FieldType} (X : Cx p s m args meth c cc nL own E A) (hr : meth.sig.returnType = some ty) (hn : narrow ty (.int v) = .int v) (G : Gw E A s w H locs) (hw : w = w') (hv : v = r) (hdg : decode cc pc = .ok (.ireturn, 1)) : W p l e R s m args below meth c H locs 0 0 (MQ below (CtQ E A r w') args s 0 0 A) (F0 m pc ls [.int v]) := by
  subst hw; subst hv
  obtain ⟨hx, hb, hml, hown, hts, hK, hA, hlocks⟩ := X
  exact W.zret hx hb hr hn (fun t ht hW => ⟨⟨v, (), rfl, rfl, by rw [ht]; exact G.1, va_K.moved hW.alike hK, G.2.1⟩, G.2.2.F ht⟩) G.2.2.2.2 hdg hlocks
theorem g_iret {v r : Int32} (X : Cx p s m args meth c cc nL own E A) (hr : meth.sig.returnType = some .int) (G : Gw E A s w H locs) (hw : w = w') (hv : v = r) (hdg : decode cc pc = .ok (.ireturn, 1)) : W p l e R s m args below meth c H locs 0 0 (MQ below (CtQ E A r w') args s 0 0 A) (F0 m pc ls [.int v]) := g_ret X hr (vp_nar_int v) G hw hv hdg
theorem g_vret (X : Cx p s m args meth c cc nL own E A) (hr : meth.sig.returnType = none) (G : Gw E A s w H locs) (hw : w = w') (hdg : decode cc pc = .ok (.return_, 1)) : W p l e R s m args below meth c H locs 0 0 (MQ below (CvQ E A w') args s 0 0 A) (F0 m pc ls []) := by
  subst hw
  obtain ⟨hx, hb, hml, hown, hts, hK, hA, hlocks⟩ := X
  exact W.vret hx hb hr (fun t ht hW => ⟨⟨(), rfl, trivial, by rw [ht]; exact G.1, va_K.moved hW.alike hK, G.2.1⟩, G.2.2.F ht⟩) G.2.2.2.2 hdg hlocks
theorem g_frame (G : Gw E A s w H locs) (hA : ∀ q, s.heap.size ≤ q → A q) : ∀ q, va_A w H.size q → A q := by
  intro q h
  rcases h with ⟨k, e, h⟩ | h
  · exact G.2.1.2 k (q, e) h
  · exact hA q (Nat.le_trans G.2.2.1 h)
theorem g_callV {y2 : MethodName} {cc2 : ByteArray} {n2 : Nat} {ret2 : Option FieldType} {d2 k : Nat} {C : String} {idx b : Nat} {As : List Value} {r : Int32} {ci : Nat} {fs : List Value} {T : u_T} {N : Nat} (X : Cx p s m args meth c cc nL own E A) (hc : CalV own idx C y2 cc2 n2 ret2 k) (hM : Ct l y2 cc2 n2 ret2 d2 E (.ref b :: As) w r w') (G : Gw E A s w H locs) (q0 : Nat) (he : w[q0]? = some (b, .inr (ci, fs))) (hcl : classes[ci]? = some (C, T, N)) (hR : d2 + 1 ≤ R.frames ∧ 8 + (n2 + 11) + 27 * d2 ≤ R.locals) (hf : cells ≤ R.cells ∧ slots ≤ R.slots) (hlen : As.length = k) (hls : ls.size = nL) (hst : stk = As.reverse ++ .ref b :: rest) (hroom : (rest.map fun v => v.category).sum ≤ 8) (hdg : decode cc pc = .ok (.invokevirtual idx, 3))
    (kk : ∀ (H1 : Heap) (locs1 : List Loc), Gw E A s w' H1 locs1 → W p l e R s m args below meth c H1 locs1 cells slots Q (F0 m (pc + 3) ls (.int r :: rest))) : W p l e R s m args below meth c H locs cells slots Q (F0 m pc ls stk) := by
  obtain ⟨hx, hb, hml, hown, hts, hK, hA, hlocks⟩ := X
  have hF := g_frame G hA
  obtain ⟨hP, hD, hS⟩ := G
  refine va_calli (va_runV (As := As) (rest := rest) ⟨hx, hb, hml, hown, hts⟩ (hM H.size) (cwV k hts (gT_goodV hc.1) rfl rfl rfl hc.2 hR) ⟨CtP_blind, va_recv hK hP (ci := ci) (q0 := q0) hcl he, fun U hU hW => ⟨rfl, by rw [hU], by rw [hU]; exact hP, va_K.moved hW.alike hK, hD.weaken (fun _ _ _ _ => trivial)⟩⟩ rfl hlen hls hst (lv_room hroom) hdg hf) hS (fun q _ h => hF q h) hF (fun r1 u t H1 locs1 ht hvm hw hB hz1 hk1 hS1 => ?_)
  subst hw
  exact kk H1 locs1 ⟨by rw [← ht]; exact hB.1, hB.2.2.weaken (fun _ _ _ h => hF _ h), hS1⟩
theorem g_callVv {y2 : MethodName} {cc2 : ByteArray} {n2 : Nat} {d2 k : Nat} {C : String} {idx b : Nat} {As : List Value} {ci : Nat} {fs : List Value} {T : u_T} {N : Nat} (X : Cx p s m args meth c cc nL own E A) (hc : CalV own idx C y2 cc2 n2 none k) (hM : Cv l y2 cc2 n2 d2 E (.ref b :: As) w w') (G : Gw E A s w H locs) (q0 : Nat) (he : w[q0]? = some (b, .inr (ci, fs))) (hcl : classes[ci]? = some (C, T, N)) (hR : d2 + 1 ≤ R.frames ∧ 8 + (n2 + 11) + 27 * d2 ≤ R.locals) (hf : cells ≤ R.cells ∧ slots ≤ R.slots) (hlen : As.length = k) (hls : ls.size = nL) (hst : stk = As.reverse ++ .ref b :: rest) (hroom : (rest.map fun v => v.category).sum ≤ 8) (hdg : decode cc pc = .ok (.invokevirtual idx, 3))
    (kk : ∀ (H1 : Heap) (locs1 : List Loc), Gw E A s w' H1 locs1 → W p l e R s m args below meth c H1 locs1 cells slots Q (F0 m (pc + 3) ls rest)) : W p l e R s m args below meth c H locs cells slots Q (F0 m pc ls stk) := by
  obtain ⟨hx, hb, hml, hown, hts, hK, hA, hlocks⟩ := X
  have hF := g_frame G hA
  obtain ⟨hP, hD, hS⟩ := G
  refine va_callv (va_runV (As := As) (rest := rest) ⟨hx, hb, hml, hown, hts⟩ (hM H.size) (cwV k hts (gT_goodV hc.1) rfl rfl rfl hc.2 hR) ⟨CtP_blind, va_recv hK hP (ci := ci) (q0 := q0) hcl he, fun U hU hW => ⟨rfl, by rw [hU], by rw [hU]; exact hP, va_K.moved hW.alike hK, hD.weaken (fun _ _ _ _ => trivial)⟩⟩ rfl hlen hls hst (lv_room hroom) hdg hf) hS (fun q _ h => hF q h) hF (fun u t H1 locs1 ht hvm hw hB hz1 hk1 hS1 => ?_)
  exact kk H1 locs1 ⟨by rw [← ht]; exact hB.1, hB.2.2.weaken (fun _ _ _ h => hF _ h), hS1⟩
theorem g_callS {y2 : MethodName} {cc2 : ByteArray} {n2 : Nat} {ret2 : Option FieldType} {d2 k : Nat} {idx : Nat} {As : List Value} {r : Int32} (X : Cx p s m args meth c cc nL own E A) (hc : CalS own idx y2 cc2 n2 ret2 k) (hM : Ct l y2 cc2 n2 ret2 d2 E As w r w') (G : Gw E A s w H locs) (hR : d2 + 1 ≤ R.frames ∧ 8 + (n2 + 11) + 27 * d2 ≤ R.locals) (hf : cells ≤ R.cells ∧ slots ≤ R.slots) (hlen : As.length = k) (hls : ls.size = nL) (hst : stk = As.reverse ++ rest) (hroom : (rest.map fun v => v.category).sum ≤ 8) (hdg : decode cc pc = .ok (.invokestatic idx, 3))
    (kk : ∀ (H1 : Heap) (locs1 : List Loc), Gw E A s w' H1 locs1 → W p l e R s m args below meth c H1 locs1 cells slots Q (F0 m (pc + 3) ls (.int r :: rest))) : W p l e R s m args below meth c H locs cells slots Q (F0 m pc ls stk) := by
  obtain ⟨hx, hb, hml, hown, hts, hK, hA, hlocks⟩ := X
  have hF := g_frame G hA
  obtain ⟨hP, hD, hS⟩ := G
  refine va_calli (va_runS (As := As) (rest := rest) ⟨hx, hb, hml, hown, hts⟩ (hM H.size) (va_cwS k hts (gT_goodS hc.1) rfl rfl rfl hc.2 hR) ⟨CtP_blind, fun U hU hW => ⟨rfl, by rw [hU], by rw [hU]; exact hP, va_K.moved hW.alike hK, hD.weaken (fun _ _ _ _ => trivial)⟩⟩ rfl hlen hls hst (lv_room hroom) hdg hf) hS (fun q _ h => hF q h) hF (fun r1 u t H1 locs1 ht hvm hw hB hz1 hk1 hS1 => ?_)
  subst hw
  exact kk H1 locs1 ⟨by rw [← ht]; exact hB.1, hB.2.2.weaken (fun _ _ _ h => hF _ h), hS1⟩
/-- a field of a class of ours -/
def Fl (own : String) (idx ci k : Nat) (C : String) (T : u_T) (N : Nat) : Prop := classes[ci]? = some (C, T, N) ∧ k < N ∧ (∀ w ∈ u_ws C T N, w ∈ gT) ∧ Cond.fieldLink own idx (T k).1 (T k).2.1 (T k).2.2.1 ∈ gT
theorem g_get {idx ci k : Nat} {C : String} {T : u_T} {N : Nat} {fs : List Value} {v : Value} (X : Cx p s m args meth c cc nL own E A) (G : Gw E A s w H locs) (hf : Fl own idx ci k C T N) (q0 : Nat) (he : w[q0]? = some (a, .inr (ci, fs))) (hv : fs[k]? = some v) (hdg : decode cc pc = .ok (.getfield idx, 3))
    (kk : W p l e R s m args below meth c H locs cells slots Q (F0 m (pc + 3) ls (v :: rest))) : W p l e R s m args below meth c H locs cells slots Q (F0 m pc ls (.ref a :: rest)) := by
  obtain ⟨hx, hb, hml, hown, hts, hK, hA, hlocks⟩ := X
  obtain ⟨h1, h2, h3, h4⟩ := hf
  exact va_get hx hb hts h3 hown hK G.1 q0 he h1 k h2 (hts _ h4) (fun _ h => h) hv hdg kk
theorem g_put {idx ci k : Nat} {C : String} {T : u_T} {N : Nat} {fs : List Value} {x : Int32} (X : Cx p s m args meth c cc nL own E A) (G : Gw E A s w H locs) (hf : Fl own idx ci k C T N) (ty0 : Nat → FieldType) (hty : ∀ k, k < N → parseFieldDescriptor (T k).2.2.1 = some (ty0 k)) (hnm : ∀ a, a < N → ∀ b, b < N → a ≠ b → (T a).2.1 ≠ (T b).2.1) (q0 : Nat) (he : w[q0]? = some (a, .inr (ci, fs))) (hfin : (T k).2.2.2 = false) (hd : parseFieldDescriptor (T k).2.2.1 = some .int) (hl : k < fs.length) (hdg : decode cc pc = .ok (.putfield idx, 3))
    (kk : ∀ (H1 : Heap) (locs1 : List Loc), Gw E A s (w.set q0 (a, .inr (ci, fs.set k (.int x)))) H1 locs1 → W p l e R s m args below meth c H1 locs1 cells slots Q (F0 m (pc + 3) ls rest)) : W p l e R s m args below meth c H locs cells slots Q (F0 m pc ls (.int x :: .ref a :: rest)) := by
  obtain ⟨hx, hb, hml, hown, hts, hK, hA, hlocks⟩ := X
  obtain ⟨h1, h2, h3, h4⟩ := hf
  exact va_put hx hb hts h3 ty0 hty hnm hown hK G.1 G.2.1 G.2.2 q0 he h1 k h2 (hts _ h4) (fun _ h => h) hfin hd (vp_nar_int x) rfl hl hdg (fun H1 locs1 a1 a2 a3 => kk H1 locs1 ⟨a1, a2, a3⟩)
theorem g_iald {n j : Nat} {f : Nat → Int32} {i : Int32} (X : Cx p s m args meth c cc nL own E A) (G : Gw E A s w H locs) (q0 : Nat) (he : w[q0]? = some (a, .inl (E.2.1, n, .inl f))) (hi : i = nI j) (hj : j < n) (hn : n < 2 ^ 31) (hdg : decode cc pc = .ok (.iaload, 1))
    (kk : W p l e R s m args below meth c H locs cells slots Q (F0 m (pc + 1) ls (.int (f j) :: rest))) : W p l e R s m args below meth c H locs cells slots Q (F0 m pc ls (.int i :: .ref a :: rest)) := by
  obtain ⟨hx, hb, hml, hown, hts, hK, hA, hlocks⟩ := X
  subst hi
  refine va_iald hx hb hK G.1 q0 0 he rfl (vp_in_nI hj hn) hdg ?_
  rw [nI_clamp (Nat.lt_trans hj hn)]
  exact kk
theorem g_zald {n j : Nat} {f : Nat → Int32} {i : Int32} (X : Cx p s m args meth c cc nL own E A) (G : Gw E A s w H locs) (q0 : Nat) (he : w[q0]? = some (a, .inl (E.2.2.1, n, .inl f))) (hi : i = nI j) (hj : j < n) (hn : n < 2 ^ 31) (hdg : decode cc pc = .ok (.baload, 1))
    (kk : W p l e R s m args below meth c H locs cells slots Q (F0 m (pc + 1) ls (.int (f j) :: rest))) : W p l e R s m args below meth c H locs cells slots Q (F0 m pc ls (.int i :: .ref a :: rest)) := by
  obtain ⟨hx, hb, hml, hown, hts, hK, hA, hlocks⟩ := X
  subst hi
  refine va_zald hx hb hK G.1 q0 1 he rfl (vp_in_nI hj hn) hdg ?_
  rw [nI_clamp (Nat.lt_trans hj hn)]
  exact kk
theorem g_iast {n j : Nat} {f : Nat → Int32} {i x : Int32} (X : Cx p s m args meth c cc nL own E A) (G : Gw E A s w H locs) (q0 : Nat) (he : w[q0]? = some (a, .inl (E.2.1, n, .inl f))) (hi : i = nI j) (hj : j < n) (hn : n < 2 ^ 31) (hdg : decode cc pc = .ok (.iastore, 1))
    (kk : ∀ (H1 : Heap) (locs1 : List Loc), Gw E A s (w.set q0 (a, .inl (E.2.1, n, .inl (upd f j x)))) H1 locs1 → W p l e R s m args below meth c H1 locs1 cells slots Q (F0 m (pc + 1) ls rest)) : W p l e R s m args below meth c H locs cells slots Q (F0 m pc ls (.int x :: .int i :: .ref a :: rest)) := by
  obtain ⟨hx, hb, hml, hown, hts, hK, hA, hlocks⟩ := X
  subst hi
  refine va_iast hx hb hK G.1 G.2.1 G.2.2 q0 0 he rfl (vp_in_nI hj hn) hdg (fun H1 locs1 a1 a2 a3 => kk H1 locs1 ?_)
  rw [nI_clamp (Nat.lt_trans hj hn)] at a1 a2
  exact ⟨a1, a2, a3⟩
/-- numbers that are known as naturals -/
theorem n_iadd {x y : Int32} (a b : Nat) (hx' : x = nI a) (hy : y = nI b) (hexec : p.tables.exec = Jvm.exec) (hb : c.code = cc) (hdg : decode cc pc = .ok (.iadd, 1)) (k : W p l e R s m args below meth c H locs cells slots Q (F0 m (pc + 1) ls (.int (nI (a + b)) :: rest))) : W p l e R s m args below meth c H locs cells slots Q (F0 m pc ls (.int y :: .int x :: rest)) := by
  subst hx'; subst hy
  refine lv_iadd hexec hb hdg ?_
  rw [nI_add]; exact k
theorem n_isub {x y : Int32} (a b : Nat) (hx' : x = nI a) (hy : y = nI b) (hab : b ≤ a) (hexec : p.tables.exec = Jvm.exec) (hb : c.code = cc) (hdg : decode cc pc = .ok (.isub, 1)) (k : W p l e R s m args below meth c H locs cells slots Q (F0 m (pc + 1) ls (.int (nI (a - b)) :: rest))) : W p l e R s m args below meth c H locs cells slots Q (F0 m pc ls (.int y :: .int x :: rest)) := by
  subst hx'; subst hy
  refine lv_isub hexec hb hdg ?_
  rw [pk_sub hab]; exact k
theorem n_imul {x y : Int32} (a b : Nat) (hx' : x = nI a) (hy : y = nI b) (hexec : p.tables.exec = Jvm.exec) (hb : c.code = cc) (hdg : decode cc pc = .ok (.imul, 1)) (k : W p l e R s m args below meth c H locs cells slots Q (F0 m (pc + 1) ls (.int (nI (a * b)) :: rest))) : W p l e R s m args below meth c H locs cells slots Q (F0 m pc ls (.int y :: .int x :: rest)) := by
  subst hx'; subst hy
  refine lv_imul hexec hb hdg ?_
  rw [pk_mul]; exact k
theorem n_idiv {x y : Int32} (a b : Nat) (hx' : x = nI a) (hy : y = nI b) (ha : a < 2 ^ 31) (h0 : 0 < b) (hb2 : b < 2 ^ 31) (hexec : p.tables.exec = Jvm.exec) (hb : c.code = cc) (hdg : decode cc pc = .ok (.idiv, 1)) (k : W p l e R s m args below meth c H locs cells slots Q (F0 m (pc + 1) ls (.int (nI (a / b)) :: rest))) : W p l e R s m args below meth c H locs cells slots Q (F0 m pc ls (.int y :: .int x :: rest)) := by
  subst hx'; subst hy
  refine lv_idiv hexec hb hdg (nI_ne0 h0 hb2) ?_
  rw [pk_div ha h0 hb2]; exact k
theorem n_irem {x y : Int32} (a b : Nat) (hx' : x = nI a) (hy : y = nI b) (ha : a < 2 ^ 31) (h0 : 0 < b) (hb2 : b < 2 ^ 31) (hexec : p.tables.exec = Jvm.exec) (hb : c.code = cc) (hdg : decode cc pc = .ok (.irem, 1)) (k : W p l e R s m args below meth c H locs cells slots Q (F0 m (pc + 1) ls (.int (nI (a % b)) :: rest))) : W p l e R s m args below meth c H locs cells slots Q (F0 m pc ls (.int y :: .int x :: rest)) := by
  subst hx'; subst hy
  refine lv_irem hexec hb hdg (nI_ne0 h0 hb2) ?_
  rw [pk_rem ha h0 hb2]; exact k
theorem n_cmp_eq {x y : Int32} (a b : Nat) (hx' : x = nI a) (hy : y = nI b) (ha : a < 2 ^ 31) (hb2 : b < 2 ^ 31) {off : Int} {tgt : Nat} (hexec : p.tables.exec = Jvm.exec) (hb : c.code = cc) (hdg : decode cc pc = .ok (.if_icmp .eq off, 3)) (ht : (pc : Int) + off = (tgt : Int)) (kt : a = b → W p l e R s m args below meth c H locs cells slots Q (F0 m tgt ls rest)) (kf : ¬ a = b → W p l e R s m args below meth c H locs cells slots Q (F0 m (pc + 3) ls rest)) : W p l e R s m args below meth c H locs cells slots Q (F0 m pc ls (.int y :: .int x :: rest)) := by
  subst hx'; subst hy
  exact lv_icmp_eq hexec hb hdg ht (fun h => kt ((nI_eq ha hb2).mp h)) (fun h => kf (fun q => h ((nI_eq ha hb2).mpr q)))
theorem n_cmp_ne {x y : Int32} (a b : Nat) (hx' : x = nI a) (hy : y = nI b) (ha : a < 2 ^ 31) (hb2 : b < 2 ^ 31) {off : Int} {tgt : Nat} (hexec : p.tables.exec = Jvm.exec) (hb : c.code = cc) (hdg : decode cc pc = .ok (.if_icmp .ne off, 3)) (ht : (pc : Int) + off = (tgt : Int)) (kt : ¬ a = b → W p l e R s m args below meth c H locs cells slots Q (F0 m tgt ls rest)) (kf : a = b → W p l e R s m args below meth c H locs cells slots Q (F0 m (pc + 3) ls rest)) : W p l e R s m args below meth c H locs cells slots Q (F0 m pc ls (.int y :: .int x :: rest)) := by
  subst hx'; subst hy
  exact lv_icmp_ne hexec hb hdg ht (fun h => kt (fun q => h ((nI_eq ha hb2).mpr q))) (fun h => kf ((nI_eq ha hb2).mp h))
theorem n_cmp_lt {x y : Int32} (a b : Nat) (hx' : x = nI a) (hy : y = nI b) (ha : a < 2 ^ 31) (hb2 : b < 2 ^ 31) {off : Int} {tgt : Nat} (hexec : p.tables.exec = Jvm.exec) (hb : c.code = cc) (hdg : decode cc pc = .ok (.if_icmp .lt off, 3)) (ht : (pc : Int) + off = (tgt : Int)) (kt : a < b → W p l e R s m args below meth c H locs cells slots Q (F0 m tgt ls rest)) (kf : ¬ a < b → W p l e R s m args below meth c H locs cells slots Q (F0 m (pc + 3) ls rest)) : W p l e R s m args below meth c H locs cells slots Q (F0 m pc ls (.int y :: .int x :: rest)) := by
  subst hx'; subst hy
  exact lv_icmp_lt hexec hb hdg ht (fun h => kt ((nI_ltI ha hb2).mp h)) (fun h => kf (fun q => h ((nI_ltI ha hb2).mpr q)))
theorem n_cmp_ge {x y : Int32} (a b : Nat) (hx' : x = nI a) (hy : y = nI b) (ha : a < 2 ^ 31) (hb2 : b < 2 ^ 31) {off : Int} {tgt : Nat} (hexec : p.tables.exec = Jvm.exec) (hb : c.code = cc) (hdg : decode cc pc = .ok (.if_icmp .ge off, 3)) (ht : (pc : Int) + off = (tgt : Int)) (kt : b ≤ a → W p l e R s m args below meth c H locs cells slots Q (F0 m tgt ls rest)) (kf : ¬ b ≤ a → W p l e R s m args below meth c H locs cells slots Q (F0 m (pc + 3) ls rest)) : W p l e R s m args below meth c H locs cells slots Q (F0 m pc ls (.int y :: .int x :: rest)) := by
  subst hx'; subst hy
  exact lv_icmp_ge hexec hb hdg ht (fun h => kt ((nI_leI hb2 ha).mp h)) (fun h => kf (fun q => h ((nI_leI hb2 ha).mpr q)))
theorem n_cmp_gt {x y : Int32} (a b : Nat) (hx' : x = nI a) (hy : y = nI b) (ha : a < 2 ^ 31) (hb2 : b < 2 ^ 31) {off : Int} {tgt : Nat} (hexec : p.tables.exec = Jvm.exec) (hb : c.code = cc) (hdg : decode cc pc = .ok (.if_icmp .gt off, 3)) (ht : (pc : Int) + off = (tgt : Int)) (kt : b < a → W p l e R s m args below meth c H locs cells slots Q (F0 m tgt ls rest)) (kf : ¬ b < a → W p l e R s m args below meth c H locs cells slots Q (F0 m (pc + 3) ls rest)) : W p l e R s m args below meth c H locs cells slots Q (F0 m pc ls (.int y :: .int x :: rest)) := by
  subst hx'; subst hy
  exact lv_icmp_gt hexec hb hdg ht (fun h => kt ((nI_ltI hb2 ha).mp h)) (fun h => kf (fun q => h ((nI_ltI hb2 ha).mpr q)))
theorem n_cmp_le {x y : Int32} (a b : Nat) (hx' : x = nI a) (hy : y = nI b) (ha : a < 2 ^ 31) (hb2 : b < 2 ^ 31) {off : Int} {tgt : Nat} (hexec : p.tables.exec = Jvm.exec) (hb : c.code = cc) (hdg : decode cc pc = .ok (.if_icmp .le off, 3)) (ht : (pc : Int) + off = (tgt : Int)) (kt : a ≤ b → W p l e R s m args below meth c H locs cells slots Q (F0 m tgt ls rest)) (kf : ¬ a ≤ b → W p l e R s m args below meth c H locs cells slots Q (F0 m (pc + 3) ls rest)) : W p l e R s m args below meth c H locs cells slots Q (F0 m pc ls (.int y :: .int x :: rest)) := by
  subst hx'; subst hy
  exact lv_icmp_le hexec hb hdg ht (fun h => kt ((nI_leI ha hb2).mp h)) (fun h => kf (fun q => h ((nI_leI ha hb2).mpr q)))
end GR
def bI (b : Bool) : Int32 := cond b 1 0
theorem bI_t : bI true = 1 := rfl
theorem bI_f : bI false = 0 := rfl
theorem bI_ne {b : Bool} (h : ¬ bI b = 0) : b = true := by cases b; exact absurd rfl h; rfl
theorem bI_eq {b : Bool} (h : bI b = 0) : b = false := by cases b; rfl; exact absurd h (by decide)
theorem bI_nar (b : Bool) : narrow .boolean (.int (bI b)) = .int (bI b) := by cases b <;> rfl
def oI (o : Option Nat) : Int32 := match o with
  | none => -6
  | some j => nI j
theorem nI_m6 {j : Nat} (h : j < 2 ^ 31) : ¬ nI j = -6 := by
  intro q
  have := nI_pos h
  rw [q] at this
  exact this (by decide)
theorem nI_cz {j : Nat} (h : j < 2 ^ 31) : ¬ nI j < 0 := nI_pos h
section GB
variable {p : Program} {l : Launch} {e : Env} {R : Room} {s : State} {m : MethodId} {args : Array Value} {below : List Frame} {meth : Method} {c : Code} {H : Heap} {locs : List Loc} {cells slots : Nat} {Q : State → Prop}
variable {cc : ByteArray} {pc : Nat} {ls : Array Slot} {rest : List Value}
theorem b_ifeq {b : Bool} {off : Int} {tgt : Nat} (hexec : p.tables.exec = Jvm.exec) (hb : c.code = cc) (hdg : decode cc pc = .ok (.ifCond .eq off, 3)) (ht : (pc : Int) + off = (tgt : Int)) (kt : b = false → W p l e R s m args below meth c H locs cells slots Q (F0 m tgt ls rest)) (kf : b = true → W p l e R s m args below meth c H locs cells slots Q (F0 m (pc + 3) ls rest)) : W p l e R s m args below meth c H locs cells slots Q (F0 m pc ls (.int (bI b) :: rest)) :=
  lv_if_eq hexec hb hdg ht (fun h => kt (bI_eq h)) (fun h => kf (bI_ne h))
theorem b_ifne {b : Bool} {off : Int} {tgt : Nat} (hexec : p.tables.exec = Jvm.exec) (hb : c.code = cc) (hdg : decode cc pc = .ok (.ifCond .ne off, 3)) (ht : (pc : Int) + off = (tgt : Int)) (kt : b = true → W p l e R s m args below meth c H locs cells slots Q (F0 m tgt ls rest)) (kf : b = false → W p l e R s m args below meth c H locs cells slots Q (F0 m (pc + 3) ls rest)) : W p l e R s m args below meth c H locs cells slots Q (F0 m pc ls (.int (bI b) :: rest)) :=
  lv_if_ne hexec hb hdg ht (fun h => kt (bI_ne h)) (fun h => kf (bI_eq h))
end GB
/-! the world of a box: its object, its rules, its bindings, its packets; st k: row k (0 rules, 1 inner, 2 is, 3 used, 4 onlyRemote, 5 onlyPort, 6 sentBits, 7 knownBy, 8 knownSince, 9 held, 10 heldSince; 11: time at place 0) -/
abbrev St : Type := Nat → Nat → Int32
def sU (st : St) (k i : Nat) (v : Int32) : St := fun k' => cond (Nat.beq k' k) (upd (st k) i v) (st k')
theorem sU_at (st : St) (k i : Nat) (v : Int32) (k' i' : Nat) : sU st k i v k' i' = if k' = k ∧ i' = i then v else st k' i' := by
  unfold sU
  by_cases h : k' = k
  · subst h
    rw [show Nat.beq k' k' = true from Nat.beq_refl k']
    show upd (st k') i v i' = _
    unfold upd
    by_cases h2 : i' = i
    · rw [if_pos h2, if_pos ⟨rfl, h2⟩]
    · rw [if_neg h2, if_neg (fun q => h2 q.2)]
  · rw [if_neg (fun q => h q.1)]
    cases hb : Nat.beq k' k with
    | true => exact absurd (Nat.eq_of_beq_eq_true hb) h
    | false => rfl
abbrev wB (E : EE) (a : Nat → Nat) (st : St) (w : va_W) : va_W :=
  (a 0, .inr (1, [.ref (a 1), .ref (a 2), .ref (a 3), .int (st 11 0)])) :: (a 1, .inl (E.2.1, 6, .inl (st 0))) :: (a 2, .inr (0, [.ref (a 4), .ref (a 5), .ref (a 6), .ref (a 7), .ref (a 8), .ref (a 9)])) :: (a 3, .inr (2, [.ref (a 10), .ref (a 11), .ref (a 12), .ref (a 13)])) :: (a 4, .inl (E.2.1, 16, .inl (st 1))) :: (a 5, .inl (E.2.1, 16, .inl (st 2))) :: (a 6, .inl (E.2.1, 16, .inl (st 3))) :: (a 7, .inl (E.2.1, 16, .inl (st 4))) :: (a 8, .inl (E.2.1, 16, .inl (st 5))) :: (a 9, .inl (E.2.1, 80, .inl (st 6))) :: (a 10, .inl (E.2.1, 32, .inl (st 7))) :: (a 11, .inl (E.2.1, 32, .inl (st 8))) :: (a 12, .inl (E.2.1, 6, .inl (st 9))) :: (a 13, .inl (E.2.1, 6, .inl (st 10))) :: w
/-- the world of the reference: its object, its numbers, its images, which are kept -/
abbrev wM (E : EE) (a : Nat → Nat) (st : St) (w : va_W) : va_W :=
  (a 0, .inr (4, [.ref (a 1), .ref (a 2), .ref (a 3)])) :: (a 1, .inl (E.2.1, 503, .inl (st 0))) :: (a 2, .inl (E.2.1, 1006, .inl (st 1))) :: (a 3, .inl (E.2.2.1, 2, .inl (st 2))) :: w
end
section
theorem i_vc : Claimed_1_1 ∧ Claimed_1_2 := sorry
end
