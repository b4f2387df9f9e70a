section
-- ===== PART A: goes FIRST, ahead of the names: the tables' words, and 'selects' of the private methods out of them =====
/-- a private method of a class that the tables say can be made, by its rows of tables_1 -/
def lw_okq (q : MethodName × Nat) : Prop := (q.1.cls ≠ "java/lang/invoke/MethodHandle" ∧ q.1.cls ≠ "java/lang/invoke/VarHandle") ∧ Cond.instantiable q.1.cls q.2 ∈ tables_1 ∧ Cond.privateMethod q.1 ∈ tables_1 ∧ Cond.instanceMethod q.1 ∈ tables_1
theorem lw_p0 : lw_okq (⟨"BoxBindings", "ruleAt", "(I)I"⟩, 3) := ⟨⟨by decide +kernel, by decide +kernel⟩, List.mem_of_getElem? (i := 10) (by decide +kernel), List.mem_of_getElem? (i := 422) (by decide +kernel), List.mem_of_getElem? (i := 423) (by decide +kernel)⟩
theorem lw_p1 : lw_okq (⟨"BoxBindingsModel", "isLent", "(I)Z"⟩, 3) := ⟨⟨by decide +kernel, by decide +kernel⟩, List.mem_of_getElem? (i := 426) (by decide +kernel), List.mem_of_getElem? (i := 455) (by decide +kernel), List.mem_of_getElem? (i := 456) (by decide +kernel)⟩
theorem lw_p2 : lw_okq (⟨"BoxBindingsModel", "end", "(I)V"⟩, 3) := ⟨⟨by decide +kernel, by decide +kernel⟩, List.mem_of_getElem? (i := 426) (by decide +kernel), List.mem_of_getElem? (i := 459) (by decide +kernel), List.mem_of_getElem? (i := 460) (by decide +kernel)⟩
theorem lw_p3 : lw_okq (⟨"BoxBindingsModel", "lapse", "()I"⟩, 3) := ⟨⟨by decide +kernel, by decide +kernel⟩, List.mem_of_getElem? (i := 426) (by decide +kernel), List.mem_of_getElem? (i := 463) (by decide +kernel), List.mem_of_getElem? (i := 464) (by decide +kernel)⟩
theorem lw_p4 : lw_okq (⟨"BoxBindingsModel", "endOf", "(I)I"⟩, 3) := ⟨⟨by decide +kernel, by decide +kernel⟩, List.mem_of_getElem? (i := 426) (by decide +kernel), List.mem_of_getElem? (i := 467) (by decide +kernel), List.mem_of_getElem? (i := 468) (by decide +kernel)⟩
theorem lw_p5 : lw_okq (⟨"BoxBindingsModel", "send", "(IIIII)I"⟩, 3) := ⟨⟨by decide +kernel, by decide +kernel⟩, List.mem_of_getElem? (i := 426) (by decide +kernel), List.mem_of_getElem? (i := 487) (by decide +kernel), List.mem_of_getElem? (i := 488) (by decide +kernel)⟩
theorem lw_p6 : lw_okq (⟨"BoxBindingsModel", "bindingOf", "(IIII)I"⟩, 3) := ⟨⟨by decide +kernel, by decide +kernel⟩, List.mem_of_getElem? (i := 426) (by decide +kernel), List.mem_of_getElem? (i := 491) (by decide +kernel), List.mem_of_getElem? (i := 492) (by decide +kernel)⟩
theorem lw_p7 : lw_okq (⟨"BoxBindingsModel", "chosen", "(II)I"⟩, 3) := ⟨⟨by decide +kernel, by decide +kernel⟩, List.mem_of_getElem? (i := 426) (by decide +kernel), List.mem_of_getElem? (i := 495) (by decide +kernel), List.mem_of_getElem? (i := 496) (by decide +kernel)⟩
theorem lw_p8 : lw_okq (⟨"BoxBindingsModel", "blockOf", "(I)I"⟩, 3) := ⟨⟨by decide +kernel, by decide +kernel⟩, List.mem_of_getElem? (i := 426) (by decide +kernel), List.mem_of_getElem? (i := 499) (by decide +kernel), List.mem_of_getElem? (i := 500) (by decide +kernel)⟩
theorem lw_p9 : lw_okq (⟨"BoxBindingsModel", "fits", "(II)Z"⟩, 3) := ⟨⟨by decide +kernel, by decide +kernel⟩, List.mem_of_getElem? (i := 426) (by decide +kernel), List.mem_of_getElem? (i := 503) (by decide +kernel), List.mem_of_getElem? (i := 504) (by decide +kernel)⟩
theorem lw_p10 : lw_okq (⟨"BoxBindingsModel", "leastOf", "(II)I"⟩, 3) := ⟨⟨by decide +kernel, by decide +kernel⟩, List.mem_of_getElem? (i := 426) (by decide +kernel), List.mem_of_getElem? (i := 507) (by decide +kernel), List.mem_of_getElem? (i := 508) (by decide +kernel)⟩
theorem lw_p11 : lw_okq (⟨"BoxBindingsModel", "make", "(IIIII)V"⟩, 3) := ⟨⟨by decide +kernel, by decide +kernel⟩, List.mem_of_getElem? (i := 426) (by decide +kernel), List.mem_of_getElem? (i := 511) (by decide +kernel), List.mem_of_getElem? (i := 512) (by decide +kernel)⟩
theorem lw_p12 : lw_okq (⟨"BoxBindingsModel", "receive", "(IIII)I"⟩, 3) := ⟨⟨by decide +kernel, by decide +kernel⟩, List.mem_of_getElem? (i := 426) (by decide +kernel), List.mem_of_getElem? (i := 522) (by decide +kernel), List.mem_of_getElem? (i := 523) (by decide +kernel)⟩
theorem lw_p13 : lw_okq (⟨"BoxBindingsModel", "whyNot", "(III)I"⟩, 3) := ⟨⟨by decide +kernel, by decide +kernel⟩, List.mem_of_getElem? (i := 426) (by decide +kernel), List.mem_of_getElem? (i := 526) (by decide +kernel), List.mem_of_getElem? (i := 527) (by decide +kernel)⟩
theorem lw_p14 : lw_okq (⟨"BoxBindingsModel", "insideOf", "(I)I"⟩, 3) := ⟨⟨by decide +kernel, by decide +kernel⟩, List.mem_of_getElem? (i := 426) (by decide +kernel), List.mem_of_getElem? (i := 530) (by decide +kernel), List.mem_of_getElem? (i := 531) (by decide +kernel)⟩
theorem lw_p15 : lw_okq (⟨"BoxBindingsModel", "isKnown", "(I)Z"⟩, 3) := ⟨⟨by decide +kernel, by decide +kernel⟩, List.mem_of_getElem? (i := 426) (by decide +kernel), List.mem_of_getElem? (i := 542) (by decide +kernel), List.mem_of_getElem? (i := 543) (by decide +kernel)⟩
def lw_privs_1 : List (MethodName × Nat) := [(⟨"BoxBindings", "ruleAt", "(I)I"⟩, 3), (⟨"BoxBindingsModel", "isLent", "(I)Z"⟩, 3), (⟨"BoxBindingsModel", "end", "(I)V"⟩, 3), (⟨"BoxBindingsModel", "lapse", "()I"⟩, 3), (⟨"BoxBindingsModel", "endOf", "(I)I"⟩, 3), (⟨"BoxBindingsModel", "send", "(IIIII)I"⟩, 3), (⟨"BoxBindingsModel", "bindingOf", "(IIII)I"⟩, 3), (⟨"BoxBindingsModel", "chosen", "(II)I"⟩, 3), (⟨"BoxBindingsModel", "blockOf", "(I)I"⟩, 3), (⟨"BoxBindingsModel", "fits", "(II)Z"⟩, 3), (⟨"BoxBindingsModel", "leastOf", "(II)I"⟩, 3), (⟨"BoxBindingsModel", "make", "(IIIII)V"⟩, 3), (⟨"BoxBindingsModel", "receive", "(IIII)I"⟩, 3), (⟨"BoxBindingsModel", "whyNot", "(III)I"⟩, 3), (⟨"BoxBindingsModel", "insideOf", "(I)I"⟩, 3), (⟨"BoxBindingsModel", "isKnown", "(I)Z"⟩, 3)]
theorem lw_r1 : ∀ q ∈ lw_privs_1, lw_okq q := List.forall_mem_cons.mpr ⟨lw_p0, List.forall_mem_cons.mpr ⟨lw_p1, List.forall_mem_cons.mpr ⟨lw_p2, List.forall_mem_cons.mpr ⟨lw_p3, List.forall_mem_cons.mpr ⟨lw_p4, List.forall_mem_cons.mpr ⟨lw_p5, List.forall_mem_cons.mpr ⟨lw_p6, List.forall_mem_cons.mpr ⟨lw_p7, List.forall_mem_cons.mpr ⟨lw_p8, List.forall_mem_cons.mpr ⟨lw_p9, List.forall_mem_cons.mpr ⟨lw_p10, List.forall_mem_cons.mpr ⟨lw_p11, List.forall_mem_cons.mpr ⟨lw_p12, List.forall_mem_cons.mpr ⟨lw_p13, List.forall_mem_cons.mpr ⟨lw_p14, List.forall_mem_cons.mpr ⟨lw_p15, fun _ h => absurd h List.not_mem_nil⟩⟩⟩⟩⟩⟩⟩⟩⟩⟩⟩⟩⟩⟩⟩⟩
theorem lw_p16 : lw_okq (⟨"BoxBindingsModel", "hold", "(II)I"⟩, 3) := ⟨⟨by decide +kernel, by decide +kernel⟩, List.mem_of_getElem? (i := 426) (by decide +kernel), List.mem_of_getElem? (i := 546) (by decide +kernel), List.mem_of_getElem? (i := 547) (by decide +kernel)⟩
theorem lw_p17 : lw_okq (⟨"BoxBindingsModel", "isHeld", "(II)Z"⟩, 3) := ⟨⟨by decide +kernel, by decide +kernel⟩, List.mem_of_getElem? (i := 426) (by decide +kernel), List.mem_of_getElem? (i := 550) (by decide +kernel), List.mem_of_getElem? (i := 551) (by decide +kernel)⟩
theorem lw_p18 : lw_okq (⟨"BoxBindingsModel", "heldMany", "()I"⟩, 3) := ⟨⟨by decide +kernel, by decide +kernel⟩, List.mem_of_getElem? (i := 426) (by decide +kernel), List.mem_of_getElem? (i := 554) (by decide +kernel), List.mem_of_getElem? (i := 555) (by decide +kernel)⟩
theorem lw_p19 : lw_okq (⟨"BoxBindingsModel", "first", "(IIII)I"⟩, 3) := ⟨⟨by decide +kernel, by decide +kernel⟩, List.mem_of_getElem? (i := 426) (by decide +kernel), List.mem_of_getElem? (i := 558) (by decide +kernel), List.mem_of_getElem? (i := 559) (by decide +kernel)⟩
theorem lw_p20 : lw_okq (⟨"BoxBindingsModel", "letGo", "(I)I"⟩, 3) := ⟨⟨by decide +kernel, by decide +kernel⟩, List.mem_of_getElem? (i := 426) (by decide +kernel), List.mem_of_getElem? (i := 562) (by decide +kernel), List.mem_of_getElem? (i := 563) (by decide +kernel)⟩
theorem lw_p21 : lw_okq (⟨"BoxBindingsModel", "toldOf", "(II)I"⟩, 3) := ⟨⟨by decide +kernel, by decide +kernel⟩, List.mem_of_getElem? (i := 426) (by decide +kernel), List.mem_of_getElem? (i := 578) (by decide +kernel), List.mem_of_getElem? (i := 579) (by decide +kernel)⟩
theorem lw_p22 : lw_okq (⟨"BoxBindingsModel", "sentMany", "(I)I"⟩, 3) := ⟨⟨by decide +kernel, by decide +kernel⟩, List.mem_of_getElem? (i := 426) (by decide +kernel), List.mem_of_getElem? (i := 582) (by decide +kernel), List.mem_of_getElem? (i := 583) (by decide +kernel)⟩
theorem lw_p23 : lw_okq (⟨"BoxBindingsModel", "bindingsOf", "(I)I"⟩, 3) := ⟨⟨by decide +kernel, by decide +kernel⟩, List.mem_of_getElem? (i := 426) (by decide +kernel), List.mem_of_getElem? (i := 610) (by decide +kernel), List.mem_of_getElem? (i := 611) (by decide +kernel)⟩
theorem lw_p24 : lw_okq (⟨"BoxBindingsModel", "blocksOf", "(I)I"⟩, 3) := ⟨⟨by decide +kernel, by decide +kernel⟩, List.mem_of_getElem? (i := 426) (by decide +kernel), List.mem_of_getElem? (i := 614) (by decide +kernel), List.mem_of_getElem? (i := 615) (by decide +kernel)⟩
theorem lw_p25 : lw_okq (⟨"BoxBindingsModel", "roomFor", "(II)I"⟩, 3) := ⟨⟨by decide +kernel, by decide +kernel⟩, List.mem_of_getElem? (i := 426) (by decide +kernel), List.mem_of_getElem? (i := 618) (by decide +kernel), List.mem_of_getElem? (i := 619) (by decide +kernel)⟩
theorem lw_p26 : lw_okq (⟨"BoxBindingsModel", "lentMany", "()I"⟩, 3) := ⟨⟨by decide +kernel, by decide +kernel⟩, List.mem_of_getElem? (i := 426) (by decide +kernel), List.mem_of_getElem? (i := 638) (by decide +kernel), List.mem_of_getElem? (i := 639) (by decide +kernel)⟩
theorem lw_p27 : lw_okq (⟨"BoxBindingsModel", "knownMany", "()I"⟩, 3) := ⟨⟨by decide +kernel, by decide +kernel⟩, List.mem_of_getElem? (i := 426) (by decide +kernel), List.mem_of_getElem? (i := 645) (by decide +kernel), List.mem_of_getElem? (i := 646) (by decide +kernel)⟩
def lw_privs_2 : List (MethodName × Nat) := [(⟨"BoxBindingsModel", "hold", "(II)I"⟩, 3), (⟨"BoxBindingsModel", "isHeld", "(II)Z"⟩, 3), (⟨"BoxBindingsModel", "heldMany", "()I"⟩, 3), (⟨"BoxBindingsModel", "first", "(IIII)I"⟩, 3), (⟨"BoxBindingsModel", "letGo", "(I)I"⟩, 3), (⟨"BoxBindingsModel", "toldOf", "(II)I"⟩, 3), (⟨"BoxBindingsModel", "sentMany", "(I)I"⟩, 3), (⟨"BoxBindingsModel", "bindingsOf", "(I)I"⟩, 3), (⟨"BoxBindingsModel", "blocksOf", "(I)I"⟩, 3), (⟨"BoxBindingsModel", "roomFor", "(II)I"⟩, 3), (⟨"BoxBindingsModel", "lentMany", "()I"⟩, 3), (⟨"BoxBindingsModel", "knownMany", "()I"⟩, 3)]
theorem lw_r2 : ∀ q ∈ lw_privs_2, lw_okq q := List.forall_mem_cons.mpr ⟨lw_p16, List.forall_mem_cons.mpr ⟨lw_p17, List.forall_mem_cons.mpr ⟨lw_p18, List.forall_mem_cons.mpr ⟨lw_p19, List.forall_mem_cons.mpr ⟨lw_p20, List.forall_mem_cons.mpr ⟨lw_p21, List.forall_mem_cons.mpr ⟨lw_p22, List.forall_mem_cons.mpr ⟨lw_p23, List.forall_mem_cons.mpr ⟨lw_p24, List.forall_mem_cons.mpr ⟨lw_p25, List.forall_mem_cons.mpr ⟨lw_p26, List.forall_mem_cons.mpr ⟨lw_p27, fun _ h => absurd h List.not_mem_nil⟩⟩⟩⟩⟩⟩⟩⟩⟩⟩⟩⟩
def lw_privs : List (MethodName × Nat) := lw_privs_1 ++ (lw_privs_2)
def lw_tbl : List Cond := k2_sels lw_privs ++ tables_1
theorem lw_privs_ok : ∀ q ∈ lw_privs, lw_okq q := by
  show ∀ q ∈ lw_privs_1 ++ (lw_privs_2), lw_okq q
  exact List.forall_mem_append.mpr ⟨lw_r1, lw_r2⟩
end
section
def RX0 : String := "BoxBindings$Bindings"
def TX0 : u_T := fun k => match k with
  | 0 => ("BoxBindings$Bindings", "inner", "[I", true)
  | 1 => ("BoxBindings$Bindings", "is", "[I", true)
  | 2 => ("BoxBindings$Bindings", "used", "[I", true)
  | 3 => ("BoxBindings$Bindings", "onlyRemote", "[I", true)
  | 4 => ("BoxBindings$Bindings", "onlyPort", "[I", true)
  | _ => ("BoxBindings$Bindings", "sentBits", "[I", true)
def tyX0 : Nat → FieldType := fun k => match k with
  | 0 => .array .int
  | 1 => .array .int
  | 2 => .array .int
  | 3 => .array .int
  | 4 => .array .int
  | _ => .array .int
abbrev wsX00 : List Cond := u_ws RX0 TX0 6
theorem nmX0 : ∀ a, a < 6 → ∀ b, b < 6 → a ≠ b → (TX0 a).2.1 ≠ (TX0 b).2.1 := by decide +kernel
theorem tyX0_ok : ∀ k, k < 6 → parseFieldDescriptor (TX0 k).2.2.1 = some (tyX0 k) := by decide +kernel
abbrev cX0_init : ByteArray := prog_2_method_1_code
def yX0_init : MethodName := ⟨RX0, "<init>", "()V"⟩
abbrev cX0_isLent : ByteArray := prog_2_method_2_code
def yX0_isLent : MethodName := ⟨RX0, "isLent", "(I)Z"⟩
abbrev cX0_hostOf : ByteArray := prog_2_method_3_code
def yX0_hostOf : MethodName := ⟨RX0, "hostOf", "(I)I"⟩
abbrev cX0_seek : ByteArray := prog_2_method_4_code
def yX0_seek : MethodName := ⟨RX0, "seek", "(III)I"⟩
abbrev cX0_isFor : ByteArray := prog_2_method_5_code
def yX0_isFor : MethodName := ⟨RX0, "isFor", "(III)Z"⟩
abbrev cX0_lend : ByteArray := prog_2_method_6_code
def yX0_lend : MethodName := ⟨RX0, "lend", "(IIII)V"⟩
abbrev cX0_unlend : ByteArray := prog_2_method_7_code
def yX0_unlend : MethodName := ⟨RX0, "unlend", "(I)V"⟩
abbrev cX0_markSent : ByteArray := prog_2_method_8_code
def yX0_markSent : MethodName := ⟨RX0, "markSent", "(III)V"⟩
abbrev cX0_isSent : ByteArray := prog_2_method_9_code
def yX0_isSent : MethodName := ⟨RX0, "isSent", "(III)Z"⟩
abbrev cX0_isAnySent : ByteArray := prog_2_method_10_code
def yX0_isAnySent : MethodName := ⟨RX0, "isAnySent", "(II)Z"⟩
abbrev cX0_countSent : ByteArray := prog_2_method_11_code
def yX0_countSent : MethodName := ⟨RX0, "countSent", "(I)I"⟩
abbrev cX0_countAll : ByteArray := prog_2_method_12_code
def yX0_countAll : MethodName := ⟨RX0, "countAll", "()I"⟩
abbrev cX0_countOfHost : ByteArray := prog_2_method_13_code
def yX0_countOfHost : MethodName := ⟨RX0, "countOfHost", "(I)I"⟩
abbrev cX0_holderOf : ByteArray := prog_2_method_14_code
def yX0_holderOf : MethodName := ⟨RX0, "holderOf", "(I)I"⟩
abbrev cX0_blocksOf : ByteArray := prog_2_method_15_code
def yX0_blocksOf : MethodName := ⟨RX0, "blocksOf", "(I)I"⟩
abbrev cX0_countFreeBlocks : ByteArray := prog_2_method_16_code
def yX0_countFreeBlocks : MethodName := ⟨RX0, "countFreeBlocks", "()I"⟩
abbrev cX0_copyBindings : ByteArray := prog_2_method_17_code
def yX0_copyBindings : MethodName := ⟨RX0, "copyBindings", "(LBoxBindings$Bindings;)V"⟩
def RX1 : String := "BoxBindings$Box"
def TX1 : u_T := fun k => match k with
  | 0 => ("BoxBindings$Box", "rules", "[I", true)
  | 1 => ("BoxBindings$Box", "lent", "LBoxBindings$Bindings;", true)
  | 2 => ("BoxBindings$Box", "parts", "LBoxBindings$Packets;", true)
  | _ => ("BoxBindings$Box", "time", "I", false)
def tyX1 : Nat → FieldType := fun k => match k with
  | 0 => .array .int
  | 1 => .object "BoxBindings$Bindings"
  | 2 => .object "BoxBindings$Packets"
  | _ => .int
abbrev wsX10 : List Cond := u_ws RX1 TX1 4
theorem nmX1 : ∀ a, a < 4 → ∀ b, b < 4 → a ≠ b → (TX1 a).2.1 ≠ (TX1 b).2.1 := by decide +kernel
theorem tyX1_ok : ∀ k, k < 4 → parseFieldDescriptor (TX1 k).2.2.1 = some (tyX1 k) := by decide +kernel
abbrev cX1_init : ByteArray := prog_3_method_1_code
def yX1_init : MethodName := ⟨RX1, "<init>", "()V"⟩
abbrev cX1_setRule : ByteArray := prog_3_method_2_code
def yX1_setRule : MethodName := ⟨RX1, "setRule", "(II)I"⟩
abbrev cX1_goOut : ByteArray := prog_3_method_3_code
def yX1_goOut : MethodName := ⟨RX1, "goOut", "(IIIII)I"⟩
abbrev cX1_makeBinding : ByteArray := prog_3_method_4_code
def yX1_makeBinding : MethodName := ⟨RX1, "makeBinding", "(IIII)I"⟩
abbrev cX1_comeIn : ByteArray := prog_3_method_5_code
def yX1_comeIn : MethodName := ⟨RX1, "comeIn", "(IIII)I"⟩
abbrev cX1_reasonAgainst : ByteArray := prog_3_method_6_code
def yX1_reasonAgainst : MethodName := ⟨RX1, "reasonAgainst", "(III)I"⟩
abbrev cX1_takeFirstPart : ByteArray := prog_3_method_7_code
def yX1_takeFirstPart : MethodName := ⟨RX1, "takeFirstPart", "(IIII)I"⟩
abbrev cX1_takeOtherPart : ByteArray := prog_3_method_8_code
def yX1_takeOtherPart : MethodName := ⟨RX1, "takeOtherPart", "(II)I"⟩
abbrev cX1_passTicks : ByteArray := prog_3_method_9_code
def yX1_passTicks : MethodName := ⟨RX1, "passTicks", "(I)I"⟩
abbrev cX1_choose : ByteArray := prog_3_method_10_code
def yX1_choose : MethodName := ⟨RX1, "choose", "(II)I"⟩
abbrev cX1_isFit : ByteArray := prog_3_method_11_code
def yX1_isFit : MethodName := ⟨RX1, "isFit", "(II)Z"⟩
abbrev cX1_leastFitOfHolder : ByteArray := prog_3_method_12_code
def yX1_leastFitOfHolder : MethodName := ⟨RX1, "leastFitOfHolder", "(II)I"⟩
abbrev cX1_leastFitOfBlock : ByteArray := prog_3_method_13_code
def yX1_leastFitOfBlock : MethodName := ⟨RX1, "leastFitOfBlock", "(II)I"⟩
abbrev cX1_tellOfBinding : ByteArray := prog_3_method_14_code
def yX1_tellOfBinding : MethodName := ⟨RX1, "tellOfBinding", "(II)I"⟩
abbrev cX1_tellOfHost : ByteArray := prog_3_method_15_code
def yX1_tellOfHost : MethodName := ⟨RX1, "tellOfHost", "(II)I"⟩
abbrev cX1_countFitFor : ByteArray := prog_3_method_16_code
def yX1_countFitFor : MethodName := ⟨RX1, "countFitFor", "(II)I"⟩
abbrev cX1_lifeOf : ByteArray := prog_3_method_17_code
def yX1_lifeOf : MethodName := ⟨RX1, "lifeOf", "(I)I"⟩
abbrev cX1_ticksLeft : ByteArray := prog_3_method_18_code
def yX1_ticksLeft : MethodName := ⟨RX1, "ticksLeft", "(I)I"⟩
abbrev cX1_leastTicksLeft : ByteArray := prog_3_method_19_code
def yX1_leastTicksLeft : MethodName := ⟨RX1, "leastTicksLeft", "()I"⟩
abbrev cX1_endLapsed : ByteArray := prog_3_method_20_code
def yX1_endLapsed : MethodName := ⟨RX1, "endLapsed", "()I"⟩
abbrev cX1_endBindingsOf : ByteArray := prog_3_method_21_code
def yX1_endBindingsOf : MethodName := ⟨RX1, "endBindingsOf", "(I)I"⟩
abbrev cX1_endAll : ByteArray := prog_3_method_22_code
def yX1_endAll : MethodName := ⟨RX1, "endAll", "()V"⟩
abbrev cX1_endBinding : ByteArray := prog_3_method_23_code
def yX1_endBinding : MethodName := ⟨RX1, "endBinding", "(I)V"⟩
abbrev cX1_becomeLike : ByteArray := prog_3_method_24_code
def yX1_becomeLike : MethodName := ⟨RX1, "becomeLike", "(LBoxBindings$Box;)V"⟩
def RX2 : String := "BoxBindings$Packets"
def TX2 : u_T := fun k => match k with
  | 0 => ("BoxBindings$Packets", "knownBy", "[I", true)
  | 1 => ("BoxBindings$Packets", "knownSince", "[I", true)
  | 2 => ("BoxBindings$Packets", "held", "[I", true)
  | _ => ("BoxBindings$Packets", "heldSince", "[I", true)
def tyX2 : Nat → FieldType := fun k => match k with
  | 0 => .array .int
  | 1 => .array .int
  | 2 => .array .int
  | _ => .array .int
abbrev wsX20 : List Cond := u_ws RX2 TX2 4
theorem nmX2 : ∀ a, a < 4 → ∀ b, b < 4 → a ≠ b → (TX2 a).2.1 ≠ (TX2 b).2.1 := by decide +kernel
theorem tyX2_ok : ∀ k, k < 4 → parseFieldDescriptor (TX2 k).2.2.1 = some (tyX2 k) := by decide +kernel
abbrev cX2_init : ByteArray := prog_4_method_1_code
def yX2_init : MethodName := ⟨RX2, "<init>", "()V"⟩
abbrev cX2_isKnown : ByteArray := prog_4_method_2_code
def yX2_isKnown : MethodName := ⟨RX2, "isKnown", "(I)Z"⟩
abbrev cX2_know : ByteArray := prog_4_method_3_code
def yX2_know : MethodName := ⟨RX2, "know", "(III)V"⟩
abbrev cX2_forget : ByteArray := prog_4_method_4_code
def yX2_forget : MethodName := ⟨RX2, "forget", "(I)V"⟩
abbrev cX2_forgetAllOf : ByteArray := prog_4_method_5_code
def yX2_forgetAllOf : MethodName := ⟨RX2, "forgetAllOf", "(I)V"⟩
abbrev cX2_hold : ByteArray := prog_4_method_6_code
def yX2_hold : MethodName := ⟨RX2, "hold", "(III)I"⟩
abbrev cX2_placeOf : ByteArray := prog_4_method_7_code
def yX2_placeOf : MethodName := ⟨RX2, "placeOf", "(I)I"⟩
abbrev cX2_releaseHeld : ByteArray := prog_4_method_8_code
def yX2_releaseHeld : MethodName := ⟨RX2, "releaseHeld", "(I)I"⟩
abbrev cX2_endOld : ByteArray := prog_4_method_9_code
def yX2_endOld : MethodName := ⟨RX2, "endOld", "(I)V"⟩
abbrev cX2_countKnown : ByteArray := prog_4_method_10_code
def yX2_countKnown : MethodName := ⟨RX2, "countKnown", "()I"⟩
abbrev cX2_countHeld : ByteArray := prog_4_method_11_code
def yX2_countHeld : MethodName := ⟨RX2, "countHeld", "()I"⟩
abbrev cX2_copyPackets : ByteArray := prog_4_method_12_code
def yX2_copyPackets : MethodName := ⟨RX2, "copyPackets", "(LBoxBindings$Packets;)V"⟩
def RX3 : String := "BoxBindings"
def TX3 : u_T := fun k => match k with
  | 0 => ("BoxBindings", "now", "LBoxBindings$Box;", true)
  | 1 => ("BoxBindings", "images", "[LBoxBindings$Box;", true)
  | _ => ("BoxBindings", "kept", "[Z", true)
def tyX3 : Nat → FieldType := fun k => match k with
  | 0 => .object "BoxBindings$Box"
  | 1 => .array (.object "BoxBindings$Box")
  | _ => .array .boolean
abbrev wsX30 : List Cond := u_ws RX3 TX3 3
theorem nmX3 : ∀ a, a < 3 → ∀ b, b < 3 → a ≠ b → (TX3 a).2.1 ≠ (TX3 b).2.1 := by decide +kernel
theorem tyX3_ok : ∀ k, k < 3 → parseFieldDescriptor (TX3 k).2.2.1 = some (tyX3 k) := by decide +kernel
abbrev cX3_init : ByteArray := prog_1_method_1_code
def yX3_init : MethodName := ⟨RX3, "<init>", "()V"⟩
abbrev cX3_rule : ByteArray := prog_1_method_2_code
def yX3_rule : MethodName := ⟨RX3, "rule", "(II)I"⟩
abbrev cX3_out : ByteArray := prog_1_method_3_code
def yX3_out : MethodName := ⟨RX3, "out", "(IIIII)I"⟩
abbrev cX3_in : ByteArray := prog_1_method_4_code
def yX3_in : MethodName := ⟨RX3, "in", "(IIII)I"⟩
abbrev cX3_turn : ByteArray := prog_1_method_5_code
def yX3_turn : MethodName := ⟨RX3, "turn", "(IIII)I"⟩
abbrev cX3_part : ByteArray := prog_1_method_6_code
def yX3_part : MethodName := ⟨RX3, "part", "(IIIII)I"⟩
abbrev cX3_tick : ByteArray := prog_1_method_7_code
def yX3_tick : MethodName := ⟨RX3, "tick", "(I)I"⟩
abbrev cX3_drop : ByteArray := prog_1_method_8_code
def yX3_drop : MethodName := ⟨RX3, "drop", "(I)I"⟩
abbrev cX3_of : ByteArray := prog_1_method_9_code
def yX3_of : MethodName := ⟨RX3, "of", "(II)I"⟩
abbrev cX3_sent : ByteArray := prog_1_method_10_code
def yX3_sent : MethodName := ⟨RX3, "sent", "(III)I"⟩
abbrev cX3_find : ByteArray := prog_1_method_11_code
def yX3_find : MethodName := ⟨RX3, "find", "(IIII)I"⟩
abbrev cX3_next : ByteArray := prog_1_method_12_code
def yX3_next : MethodName := ⟨RX3, "next", "(II)I"⟩
abbrev cX3_why : ByteArray := prog_1_method_13_code
def yX3_why : MethodName := ⟨RX3, "why", "(III)I"⟩
abbrev cX3_block : ByteArray := prog_1_method_14_code
def yX3_block : MethodName := ⟨RX3, "block", "(I)I"⟩
abbrev cX3_host : ByteArray := prog_1_method_15_code
def yX3_host : MethodName := ⟨RX3, "host", "(II)I"⟩
abbrev cX3_soon : ByteArray := prog_1_method_16_code
def yX3_soon : MethodName := ⟨RX3, "soon", "()I"⟩
abbrev cX3_image : ByteArray := prog_1_method_17_code
def yX3_image : MethodName := ⟨RX3, "image", "(I)I"⟩
abbrev cX3_restore : ByteArray := prog_1_method_18_code
def yX3_restore : MethodName := ⟨RX3, "restore", "(I)I"⟩
abbrev cX3_count : ByteArray := prog_1_method_19_code
def yX3_count : MethodName := ⟨RX3, "count", "(I)I"⟩
abbrev cX3_ruleAt : ByteArray := prog_1_method_20_code
def yX3_ruleAt : MethodName := ⟨RX3, "ruleAt", "(I)I"⟩
abbrev cX3_isBelow : ByteArray := prog_1_method_21_code
def yX3_isBelow : MethodName := ⟨RX3, "isBelow", "(II)Z"⟩
abbrev cX3_isRemotePort : ByteArray := prog_1_method_22_code
def yX3_isRemotePort : MethodName := ⟨RX3, "isRemotePort", "(II)Z"⟩
def RX4 : String := "BoxBindingsModel"
def TX4 : u_T := fun k => match k with
  | 0 => ("BoxBindingsModel", "state", "[I", true)
  | 1 => ("BoxBindingsModel", "images", "[I", true)
  | _ => ("BoxBindingsModel", "isKept", "[Z", true)
def tyX4 : Nat → FieldType := fun k => match k with
  | 0 => .array .int
  | 1 => .array .int
  | _ => .array .boolean
abbrev wsX40 : List Cond := u_ws RX4 TX4 3
theorem nmX4 : ∀ a, a < 3 → ∀ b, b < 3 → a ≠ b → (TX4 a).2.1 ≠ (TX4 b).2.1 := by decide +kernel
theorem tyX4_ok : ∀ k, k < 3 → parseFieldDescriptor (TX4 k).2.2.1 = some (tyX4 k) := by decide +kernel
abbrev cX4_init : ByteArray := prog_6_method_1_code
def yX4_init : MethodName := ⟨RX4, "<init>", "()V"⟩
abbrev cX4_isFrom : ByteArray := prog_6_method_2_code
def yX4_isFrom : MethodName := ⟨RX4, "isFrom", "(III)Z"⟩
abbrev cX4_isHost : ByteArray := prog_6_method_3_code
def yX4_isHost : MethodName := ⟨RX4, "isHost", "(I)Z"⟩
abbrev cX4_isPort : ByteArray := prog_6_method_4_code
def yX4_isPort : MethodName := ⟨RX4, "isPort", "(I)Z"⟩
abbrev cX4_isOuter : ByteArray := prog_6_method_5_code
def yX4_isOuter : MethodName := ⟨RX4, "isOuter", "(I)Z"⟩
abbrev cX4_isRemote : ByteArray := prog_6_method_6_code
def yX4_isRemote : MethodName := ⟨RX4, "isRemote", "(II)Z"⟩
abbrev cX4_isFlag : ByteArray := prog_6_method_7_code
def yX4_isFlag : MethodName := ⟨RX4, "isFlag", "(I)Z"⟩
abbrev cX4_isLent : ByteArray := prog_6_method_8_code
def yX4_isLent : MethodName := ⟨RX4, "isLent", "(I)Z"⟩
abbrev cX4_end : ByteArray := prog_6_method_9_code
def yX4_end : MethodName := ⟨RX4, "end", "(I)V"⟩
abbrev cX4_endOf : ByteArray := prog_6_method_10_code
def yX4_endOf : MethodName := ⟨RX4, "endOf", "(I)I"⟩
abbrev cX4_lapse : ByteArray := prog_6_method_11_code
def yX4_lapse : MethodName := ⟨RX4, "lapse", "()I"⟩
abbrev cX4_least : ByteArray := prog_6_method_12_code
def yX4_least : MethodName := ⟨RX4, "least", "(I)I"⟩
abbrev cX4_most : ByteArray := prog_6_method_13_code
def yX4_most : MethodName := ⟨RX4, "most", "(I)I"⟩
abbrev cX4_rule : ByteArray := prog_6_method_14_code
def yX4_rule : MethodName := ⟨RX4, "rule", "(II)I"⟩
abbrev cX4_bindingOf : ByteArray := prog_6_method_15_code
def yX4_bindingOf : MethodName := ⟨RX4, "bindingOf", "(IIII)I"⟩
abbrev cX4_blockOf : ByteArray := prog_6_method_16_code
def yX4_blockOf : MethodName := ⟨RX4, "blockOf", "(I)I"⟩
abbrev cX4_fits : ByteArray := prog_6_method_17_code
def yX4_fits : MethodName := ⟨RX4, "fits", "(II)Z"⟩
abbrev cX4_leastOf : ByteArray := prog_6_method_18_code
def yX4_leastOf : MethodName := ⟨RX4, "leastOf", "(II)I"⟩
abbrev cX4_chosen : ByteArray := prog_6_method_19_code
def yX4_chosen : MethodName := ⟨RX4, "chosen", "(II)I"⟩
abbrev cX4_make : ByteArray := prog_6_method_20_code
def yX4_make : MethodName := ⟨RX4, "make", "(IIIII)V"⟩
abbrev cX4_send : ByteArray := prog_6_method_21_code
def yX4_send : MethodName := ⟨RX4, "send", "(IIIII)I"⟩
abbrev cX4_out : ByteArray := prog_6_method_22_code
def yX4_out : MethodName := ⟨RX4, "out", "(IIIII)I"⟩
abbrev cX4_whyNot : ByteArray := prog_6_method_23_code
def yX4_whyNot : MethodName := ⟨RX4, "whyNot", "(III)I"⟩
abbrev cX4_insideOf : ByteArray := prog_6_method_24_code
def yX4_insideOf : MethodName := ⟨RX4, "insideOf", "(I)I"⟩
abbrev cX4_receive : ByteArray := prog_6_method_25_code
def yX4_receive : MethodName := ⟨RX4, "receive", "(IIII)I"⟩
abbrev cX4_in : ByteArray := prog_6_method_26_code
def yX4_in : MethodName := ⟨RX4, "in", "(IIII)I"⟩
abbrev cX4_turn : ByteArray := prog_6_method_27_code
def yX4_turn : MethodName := ⟨RX4, "turn", "(IIII)I"⟩
abbrev cX4_isKnown : ByteArray := prog_6_method_28_code
def yX4_isKnown : MethodName := ⟨RX4, "isKnown", "(I)Z"⟩
abbrev cX4_isHeld : ByteArray := prog_6_method_29_code
def yX4_isHeld : MethodName := ⟨RX4, "isHeld", "(II)Z"⟩
abbrev cX4_heldMany : ByteArray := prog_6_method_30_code
def yX4_heldMany : MethodName := ⟨RX4, "heldMany", "()I"⟩
abbrev cX4_letGo : ByteArray := prog_6_method_31_code
def yX4_letGo : MethodName := ⟨RX4, "letGo", "(I)I"⟩
abbrev cX4_first : ByteArray := prog_6_method_32_code
def yX4_first : MethodName := ⟨RX4, "first", "(IIII)I"⟩
abbrev cX4_hold : ByteArray := prog_6_method_33_code
def yX4_hold : MethodName := ⟨RX4, "hold", "(II)I"⟩
abbrev cX4_part : ByteArray := prog_6_method_34_code
def yX4_part : MethodName := ⟨RX4, "part", "(IIIII)I"⟩
abbrev cX4_tick : ByteArray := prog_6_method_35_code
def yX4_tick : MethodName := ⟨RX4, "tick", "(I)I"⟩
abbrev cX4_drop : ByteArray := prog_6_method_36_code
def yX4_drop : MethodName := ⟨RX4, "drop", "(I)I"⟩
abbrev cX4_sentMany : ByteArray := prog_6_method_37_code
def yX4_sentMany : MethodName := ⟨RX4, "sentMany", "(I)I"⟩
abbrev cX4_toldOf : ByteArray := prog_6_method_38_code
def yX4_toldOf : MethodName := ⟨RX4, "toldOf", "(II)I"⟩
abbrev cX4_of : ByteArray := prog_6_method_39_code
def yX4_of : MethodName := ⟨RX4, "of", "(II)I"⟩
abbrev cX4_sent : ByteArray := prog_6_method_40_code
def yX4_sent : MethodName := ⟨RX4, "sent", "(III)I"⟩
abbrev cX4_find : ByteArray := prog_6_method_41_code
def yX4_find : MethodName := ⟨RX4, "find", "(IIII)I"⟩
abbrev cX4_next : ByteArray := prog_6_method_42_code
def yX4_next : MethodName := ⟨RX4, "next", "(II)I"⟩
abbrev cX4_why : ByteArray := prog_6_method_43_code
def yX4_why : MethodName := ⟨RX4, "why", "(III)I"⟩
abbrev cX4_block : ByteArray := prog_6_method_44_code
def yX4_block : MethodName := ⟨RX4, "block", "(I)I"⟩
abbrev cX4_bindingsOf : ByteArray := prog_6_method_45_code
def yX4_bindingsOf : MethodName := ⟨RX4, "bindingsOf", "(I)I"⟩
abbrev cX4_blocksOf : ByteArray := prog_6_method_46_code
def yX4_blocksOf : MethodName := ⟨RX4, "blocksOf", "(I)I"⟩
abbrev cX4_roomFor : ByteArray := prog_6_method_47_code
def yX4_roomFor : MethodName := ⟨RX4, "roomFor", "(II)I"⟩
abbrev cX4_host : ByteArray := prog_6_method_48_code
def yX4_host : MethodName := ⟨RX4, "host", "(II)I"⟩
abbrev cX4_soon : ByteArray := prog_6_method_49_code
def yX4_soon : MethodName := ⟨RX4, "soon", "()I"⟩
abbrev cX4_image : ByteArray := prog_6_method_50_code
def yX4_image : MethodName := ⟨RX4, "image", "(I)I"⟩
abbrev cX4_restore : ByteArray := prog_6_method_51_code
def yX4_restore : MethodName := ⟨RX4, "restore", "(I)I"⟩
abbrev cX4_knownMany : ByteArray := prog_6_method_52_code
def yX4_knownMany : MethodName := ⟨RX4, "knownMany", "()I"⟩
abbrev cX4_lentMany : ByteArray := prog_6_method_53_code
def yX4_lentMany : MethodName := ⟨RX4, "lentMany", "()I"⟩
abbrev cX4_count : ByteArray := prog_6_method_54_code
def yX4_count : MethodName := ⟨RX4, "count", "(I)I"⟩
abbrev cX4_bits : ByteArray := prog_6_method_55_code
def yX4_bits : MethodName := ⟨RX4, "bits", "(I)I"⟩
def RJx8e188 : String := "java/lang/Cloneable"
def TJx8e188 : u_T := fun k => match k with
  | _ => ("", "", "", false)
def tyJx8e188 : Nat → FieldType := fun k => match k with
  | _ => .int
abbrev wsJx8e1880 : List Cond := u_ws RJx8e188 TJx8e188 0
theorem nmJx8e188 : ∀ a, a < 0 → ∀ b, b < 0 → a ≠ b → (TJx8e188 a).2.1 ≠ (TJx8e188 b).2.1 := by decide +kernel
theorem tyJx8e188_ok : ∀ k, k < 0 → parseFieldDescriptor (TJx8e188 k).2.2.1 = some (tyJx8e188 k) := by decide +kernel
def RJ6 : String := "java/lang/Integer"
def TJ6 : u_T := fun k => match k with
  | _ => ("", "", "", false)
def tyJ6 : Nat → FieldType := fun k => match k with
  | _ => .int
abbrev wsJ60 : List Cond := u_ws RJ6 TJ6 0
theorem nmJ6 : ∀ a, a < 0 → ∀ b, b < 0 → a ≠ b → (TJ6 a).2.1 ≠ (TJ6 b).2.1 := by decide +kernel
theorem tyJ6_ok : ∀ k, k < 0 → parseFieldDescriptor (TJ6 k).2.2.1 = some (tyJ6 k) := by decide +kernel
abbrev cJ6_bitCount_0f7a4 : ByteArray := prog_8_method_49_code
def yJ6_bitCount_0f7a4 : MethodName := ⟨RJ6, "bitCount", "(I)I"⟩
def RJ10 : String := "java/lang/System"
def TJ10 : u_T := fun k => match k with
  | _ => ("", "", "", false)
def tyJ10 : Nat → FieldType := fun k => match k with
  | _ => .int
abbrev wsJ100 : List Cond := u_ws RJ10 TJ10 0
theorem nmJ10 : ∀ a, a < 0 → ∀ b, b < 0 → a ≠ b → (TJ10 a).2.1 ≠ (TJ10 b).2.1 := by decide +kernel
theorem tyJ10_ok : ∀ k, k < 0 → parseFieldDescriptor (TJ10 k).2.2.1 = some (tyJ10 k) := by decide +kernel
def RJ7 : String := "java/util/Arrays"
def TJ7 : u_T := fun k => match k with
  | _ => ("", "", "", false)
def tyJ7 : Nat → FieldType := fun k => match k with
  | _ => .int
abbrev wsJ70 : List Cond := u_ws RJ7 TJ7 0
theorem nmJ7 : ∀ a, a < 0 → ∀ b, b < 0 → a ≠ b → (TJ7 a).2.1 ≠ (TJ7 b).2.1 := by decide +kernel
theorem tyJ7_ok : ∀ k, k < 0 → parseFieldDescriptor (TJ7 k).2.2.1 = some (tyJ7 k) := by decide +kernel
abbrev cJ7_fill_53178 : ByteArray := prog_10_method_103_code
def yJ7_fill_53178 : MethodName := ⟨RJ7, "fill", "([II)V"⟩
def RL : String := "BoxBindingsLaw"
abbrev cL_law : ByteArray := code
def yL_law : MethodName := ⟨RL, "law", "([I)Z"⟩
end
section
/-! the words of the tables that a contract may carry, one list for all methods -/
def gT : List Cond := lw_tbl.filter goodWord
theorem gT_in {w : Cond} (i : Nat) (h : lw_tbl[i]? = some w) (g : goodWord w = true) : w ∈ gT := List.mem_filter.mpr ⟨List.mem_of_getElem? h, g⟩
theorem gT_r (ws : List Cond) (ps : List Nat) (hp : ws = ps.filterMap (fun i => lw_tbl[i]?)) (h : ws.all goodWord = true) : ∀ w ∈ ws, w ∈ gT := by
  intro w hw
  have h1 := List.all_eq_true.mp h w hw
  rw [hp] at hw
  obtain ⟨i, -, hi⟩ := List.mem_filterMap.mp hw
  exact List.mem_filter.mpr ⟨List.mem_of_getElem? hi, h1⟩
theorem gT_tbl {w : Cond} (h : w ∈ gT) : w ∈ lw_tbl := (List.mem_filter.mp h).1
theorem gT_ok {w : Cond} (h : w ∈ gT) : (w.onTables && w.keeps) = true ∨ ∃ ty, w = .arrayClass ty := good_of_word (List.mem_filter.mp h).2
abbrev wY (y : MethodName) (cc : ByteArray) (n : Nat) (ret : Option FieldType) : List Cond := .code y cc n ret :: gT
abbrev EE : Type := va_G × ClassId × ClassId × ClassId
abbrev classes : List vw_C := [(RX0, TX0, 6), (RX1, TX1, 4), (RX2, TX2, 4), (RX3, TX3, 3), (RX4, TX4, 3)]
abbrev tysA (E : EE) : List (ClassId × FieldType) := [(E.2.1, .int), (E.2.2.1, .boolean), (E.2.2.2, .object "BoxBindings$Box")]
def KK (E : EE) (U : State) : Prop := va_K E.1 classes (tysA E) U
def rmD (d : Nat) : Room := { frames := d, cells := 0, slots := 0, locals := 27 * d }
def Gw (E : EE) (A : Nat → Prop) (s : State) (w : va_W) (H : Heap) (locs : List Loc) : Prop := va_P E.1 classes w H ∧ va_D A w ∧ va_S A s.heap H locs
def Cx (p : Program) (s : State) (m : MethodId) (args : Array Value) (meth : Method) (c : Code) (cc : ByteArray) (nL : Nat) (own : String) (E : EE) (A : Nat → Prop) : Prop :=
  p.tables.exec = Jvm.exec ∧ c.code = cc ∧ c.maxLocals = nL ∧ s.vm.findClass own = some m.cls ∧ (∀ w ∈ gT, w.before args s = true) ∧ KK E s ∧ (∀ q, s.heap.size ≤ q → A q) ∧ meth.locks = false
def CtP (E : EE) (sz : Nat) (av : List Value) (w : va_W) : Array Value → State → Prop := va_Pc av (fun U => U.heap.size = sz ∧ va_P E.1 classes w U.heap ∧ KK E U ∧ va_D (fun _ => True) w)
def CtQ (E : EE) (A : Nat → Prop) (r : Int32) (w' : va_W) : Array Value → State → Outcome → State → Prop := va_Qi (fun r' (_ : Unit) => r' = r) (fun _ t => va_P E.1 classes w' t.heap ∧ KK E t ∧ va_D A w') A
def CvQ (E : EE) (A : Nat → Prop) (w' : va_W) : Array Value → State → Outcome → State → Prop := va_Qv (fun (_ : Unit) => True) (fun _ t => va_P E.1 classes w' t.heap ∧ KK E t ∧ va_D A w') A
/-- a contract: the method answers r, the world w becomes w'; nothing is made -/
def Ct (l : Launch) (y : MethodName) (cc : ByteArray) (n : Nat) (ret : Option FieldType) (d : Nat) (E : EE) (av : List Value) (w : va_W) (r : Int32) (w' : va_W) : Prop :=
  ∀ sz, Met l y (wY y cc n ret) (rmD d) (CtP E sz av w) (CtQ E (va_A w sz) r w') 0 0 (va_A w sz)
def Cv (l : Launch) (y : MethodName) (cc : ByteArray) (n : Nat) (d : Nat) (E : EE) (av : List Value) (w : va_W) (w' : va_W) : Prop :=
  ∀ sz, Met l y (wY y cc n none) (rmD d) (CtP E sz av w) (CvQ E (va_A w sz) w') 0 0 (va_A w sz)
theorem CtP_blind {E : EE} {sz : Nat} {av : List Value} {w : va_W} : FrameBlind (CtP E sz av w) := fun a U g mk q => by
  obtain ⟨q0, q1, qP, qK, qD⟩ := q
  exact ⟨q0, q1, qP, va_K.moved (u := U) (U := U.calling g mk a) (Vm.Alike.refl U.vm) qK, qD⟩
theorem Ct_mk {l : Launch} {y : MethodName} {cc : ByteArray} {n : Nat} {ret : Option FieldType} {d : Nat} {E : EE} {av : List Value} {w : va_W} {r : Int32} {w' : va_W} (own : String) (ho : y.cls = own) (hy : plainName y.cls = true) (hn : (lg_sl av).length ≤ n)
    (body : ∀ (p : Program) (e : Env) (s : State) (m : MethodId) (below : List Frame) (meth : Method) (c : Code) (A : Nat → Prop) (ls : Array Slot), Cx p s m av.toArray meth c cc n own E A → meth.sig.returnType = ret → Gw E A s w s.heap [] → lv_has ls n (lv_args 0 av) → W p l e (rmD d) s m av.toArray below meth c s.heap [] 0 0 (MQ below (CtQ E A r w') av.toArray s 0 0 A) (F0 m 0 ls [])) : Ct l y cc n ret d E av w r w' := by
  intro sz
  refine Met.ofW (cc := cc) (maxL := n) (ret := ret) hy rfl ?_
  intro p e s m args below meth c s₁ B hml hv
  obtain ⟨rfl, hsz, hP, hK, hD0⟩ := hv
  subst hsz
  subst ho
  have hl := lv_entry av (n := n) hn
  rw [lg_entry_eq]
  exact body p e s m below meth c _ _ ⟨B.exec, B.bytes, hml, findClass_of_methodNamed B.named, fun w hw => atoms_spec (ws := wY y cc n ret) B.pre w (List.mem_cons_of_mem _ hw), hK, fun q h => Or.inr h, B.notSynchronized⟩ B.returns ⟨hP, hD0.self, va_S.rf⟩ hl
theorem Cv_mk {l : Launch} {y : MethodName} {cc : ByteArray} {n : Nat} {d : Nat} {E : EE} {av : List Value} {w : va_W} {w' : va_W} (own : String) (ho : y.cls = own) (hy : plainName y.cls = true) (hn : (lg_sl av).length ≤ n)
    (body : ∀ (p : Program) (e : Env) (s : State) (m : MethodId) (below : List Frame) (meth : Method) (c : Code) (A : Nat → Prop) (ls : Array Slot), Cx p s m av.toArray meth c cc n own E A → meth.sig.returnType = none → Gw E A s w s.heap [] → lv_has ls n (lv_args 0 av) → W p l e (rmD d) s m av.toArray below meth c s.heap [] 0 0 (MQ below (CvQ E A w') av.toArray s 0 0 A) (F0 m 0 ls [])) : Cv l y cc n d E av w w' := by
  intro sz
  refine Met.ofW (cc := cc) (maxL := n) (ret := none) hy rfl ?_
  intro p e s m args below meth c s₁ B hml hv
  obtain ⟨rfl, hsz, hP, hK, hD0⟩ := hv
  subst hsz
  subst ho
  have hl := lv_entry av (n := n) hn
  rw [lg_entry_eq]
  exact body p e s m below meth c _ _ ⟨B.exec, B.bytes, hml, findClass_of_methodNamed B.named, fun w hw => atoms_spec (ws := wY y cc n none) B.pre w (List.mem_cons_of_mem _ hw), hK, fun q h => Or.inr h, B.notSynchronized⟩ B.returns ⟨hP, hD0.self, va_S.rf⟩ hl
/-- what a call needs of the tables -/
def CalV (own : String) (idx : Nat) (C : String) (y : MethodName) (cc : ByteArray) (n : Nat) (ret : Option FieldType) (k : Nat) : Prop :=
  (Cond.methodLink own idx y ∈ gT ∧ Cond.instanceMethod y ∈ gT ∧ Cond.selects C y y ∈ gT ∧ Cond.initialized C ∈ gT ∧ Cond.code y cc n ret ∈ gT) ∧ y.cls = C ∧ y.cls ≠ "java/lang/invoke/MethodHandle" ∧ y.cls ≠ "java/lang/invoke/VarHandle" ∧ (parseMethodDescriptor y.desc).map (fun d => d.parameters.length) = some k
def CalS (own : String) (idx : Nat) (y : MethodName) (cc : ByteArray) (n : Nat) (ret : Option FieldType) (k : Nat) : Prop :=
  (Cond.methodLink own idx y ∈ gT ∧ Cond.static y ∈ gT ∧ Cond.initialized y.cls ∈ gT ∧ Cond.code y cc n ret ∈ gT) ∧ y.cls ≠ "java/lang/invoke/MethodHandle" ∧ y.cls ≠ "java/lang/invoke/VarHandle" ∧ (parseMethodDescriptor y.desc).map (fun d => d.parameters.length) = some k
theorem gT_goodV {own : String} {idx : Nat} {C : String} {y : MethodName} {cc : ByteArray} {n : Nat} {ret : Option FieldType} (h : Cond.methodLink own idx y ∈ gT ∧ Cond.instanceMethod y ∈ gT ∧ Cond.selects C y y ∈ gT ∧ Cond.initialized C ∈ gT ∧ Cond.code y cc n ret ∈ gT) : GoodIn gT (wsV own idx C y (wY y cc n ret)) := by
  intro w hw
  have hg : w ∈ gT := by
    simp only [wsV, List.mem_append, List.mem_cons, List.not_mem_nil, or_false] at hw
    rcases hw with (rfl | rfl | rfl | rfl) | (rfl | hw)
    · exact h.1
    · exact h.2.1
    · exact h.2.2.1
    · exact h.2.2.2.1
    · exact h.2.2.2.2
    · exact hw
  exact ⟨hg, gT_ok hg⟩
theorem gT_goodS {own : String} {idx : Nat} {y : MethodName} {cc : ByteArray} {n : Nat} {ret : Option FieldType} (h : Cond.methodLink own idx y ∈ gT ∧ Cond.static y ∈ gT ∧ Cond.initialized y.cls ∈ gT ∧ Cond.code y cc n ret ∈ gT) : GoodIn gT (va_wsS own idx y (wY y cc n ret)) := by
  intro w hw
  have hg : w ∈ gT := by
    simp only [va_wsS, List.mem_append, List.mem_cons, List.not_mem_nil, or_false] at hw
    rcases hw with (rfl | rfl | rfl) | (rfl | hw)
    · exact h.1
    · exact h.2.1
    · exact h.2.2.1
    · exact h.2.2.2
    · exact hw
  exact ⟨hg, gT_ok hg⟩
section GR
variable {p : Program} {l : Launch} {e : Env} {R : Room} {s : State} {m : MethodId} {args : Array Value} {below : List Frame} {meth : Method} {c : Code} {H : Heap} {locs : List Loc} {cells slots : Nat} {Q : State → Prop}
variable {cc : ByteArray} {nL : Nat} {own : String} {E : EE} {A : Nat → Prop} {w w' : va_W} {pc : Nat} {ls : Array Slot} {rest stk : List Value} {a : Nat}
theorem g_ret {v r : Int32} {ty : FieldType} (X : Cx p s m args meth c cc nL own E A) (hr : meth.sig.returnType = some ty) (hn : narrow ty (.int v) = .int v) (G : Gw E A s w H locs) (hw : w = w') (hv : v = r) (hdg : decode cc pc = .ok (.ireturn, 1)) : W p l e R s m args below meth c H locs 0 0 (MQ below (CtQ E A r w') args s 0 0 A) (F0 m pc ls [.int v]) := by
  subst hw; subst hv
  obtain ⟨hx, hb, hml, hown, hts, hK, hA, hlocks⟩ := X
  exact W.zret hx hb hr hn (fun t ht hW => ⟨⟨v, (), rfl, rfl, by rw [ht]; exact G.1, va_K.moved hW.alike hK, G.2.1⟩, G.2.2.F ht⟩) G.2.2.2.2 hdg hlocks
theorem g_iret {v r : Int32} (X : Cx p s m args meth c cc nL own E A) (hr : meth.sig.returnType = some .int) (G : Gw E A s w H locs) (hw : w = w') (hv : v = r) (hdg : decode cc pc = .ok (.ireturn, 1)) : W p l e R s m args below meth c H locs 0 0 (MQ below (CtQ E A r w') args s 0 0 A) (F0 m pc ls [.int v]) := g_ret X hr (vp_nar_int v) G hw hv hdg
theorem g_vret (X : Cx p s m args meth c cc nL own E A) (hr : meth.sig.returnType = none) (G : Gw E A s w H locs) (hw : w = w') (hdg : decode cc pc = .ok (.return_, 1)) : W p l e R s m args below meth c H locs 0 0 (MQ below (CvQ E A w') args s 0 0 A) (F0 m pc ls []) := by
  subst hw
  obtain ⟨hx, hb, hml, hown, hts, hK, hA, hlocks⟩ := X
  exact W.vret hx hb hr (fun t ht hW => ⟨⟨(), rfl, trivial, by rw [ht]; exact G.1, va_K.moved hW.alike hK, G.2.1⟩, G.2.2.F ht⟩) G.2.2.2.2 hdg hlocks
theorem g_frame (G : Gw E A s w H locs) (hA : ∀ q, s.heap.size ≤ q → A q) : ∀ q, va_A w H.size q → A q := by
  intro q h
  rcases h with ⟨k, e, h⟩ | h
  · exact G.2.1.2 k (q, e) h
  · exact hA q (Nat.le_trans G.2.2.1 h)
theorem g_callV {y2 : MethodName} {cc2 : ByteArray} {n2 : Nat} {ret2 : Option FieldType} {d2 k : Nat} {C : String} {idx b : Nat} {As : List Value} {r : Int32} {ci : Nat} {fs : List Value} {T : u_T} {N : Nat} (X : Cx p s m args meth c cc nL own E A) (hc : CalV own idx C y2 cc2 n2 ret2 k) (hM : Ct l y2 cc2 n2 ret2 d2 E (.ref b :: As) w r w') (G : Gw E A s w H locs) (q0 : Nat) (he : w[q0]? = some (b, .inr (ci, fs))) (hcl : classes[ci]? = some (C, T, N)) (hR : d2 + 1 ≤ R.frames ∧ 8 + (n2 + 11) + 27 * d2 ≤ R.locals) (hf : cells ≤ R.cells ∧ slots ≤ R.slots) (hlen : As.length = k) (hls : ls.size = nL) (hst : stk = As.reverse ++ .ref b :: rest) (hroom : (rest.map fun v => v.category).sum ≤ 8) (hdg : decode cc pc = .ok (.invokevirtual idx, 3))
    (kk : ∀ (H1 : Heap) (locs1 : List Loc), Gw E A s w' H1 locs1 → W p l e R s m args below meth c H1 locs1 cells slots Q (F0 m (pc + 3) ls (.int r :: rest))) : W p l e R s m args below meth c H locs cells slots Q (F0 m pc ls stk) := by
  obtain ⟨hx, hb, hml, hown, hts, hK, hA, hlocks⟩ := X
  have hF := g_frame G hA
  obtain ⟨hP, hD, hS⟩ := G
  refine va_calli (va_runV (As := As) (rest := rest) ⟨hx, hb, hml, hown, hts⟩ (hM H.size) (cwV k hts (gT_goodV hc.1) rfl rfl rfl hc.2 hR) ⟨CtP_blind, va_recv hK hP (ci := ci) (q0 := q0) hcl he, fun U hU hW => ⟨rfl, by rw [hU], by rw [hU]; exact hP, va_K.moved hW.alike hK, hD.weaken (fun _ _ _ _ => trivial)⟩⟩ rfl hlen hls hst (lv_room hroom) hdg hf) hS (fun q _ h => hF q h) hF (fun r1 u t H1 locs1 ht hvm hw hB hz1 hk1 hS1 => ?_)
  subst hw
  exact kk H1 locs1 ⟨by rw [← ht]; exact hB.1, hB.2.2.weaken (fun _ _ _ h => hF _ h), hS1⟩
theorem g_callVv {y2 : MethodName} {cc2 : ByteArray} {n2 : Nat} {d2 k : Nat} {C : String} {idx b : Nat} {As : List Value} {ci : Nat} {fs : List Value} {T : u_T} {N : Nat} (X : Cx p s m args meth c cc nL own E A) (hc : CalV own idx C y2 cc2 n2 none k) (hM : Cv l y2 cc2 n2 d2 E (.ref b :: As) w w') (G : Gw E A s w H locs) (q0 : Nat) (he : w[q0]? = some (b, .inr (ci, fs))) (hcl : classes[ci]? = some (C, T, N)) (hR : d2 + 1 ≤ R.frames ∧ 8 + (n2 + 11) + 27 * d2 ≤ R.locals) (hf : cells ≤ R.cells ∧ slots ≤ R.slots) (hlen : As.length = k) (hls : ls.size = nL) (hst : stk = As.reverse ++ .ref b :: rest) (hroom : (rest.map fun v => v.category).sum ≤ 8) (hdg : decode cc pc = .ok (.invokevirtual idx, 3))
    (kk : ∀ (H1 : Heap) (locs1 : List Loc), Gw E A s w' H1 locs1 → W p l e R s m args below meth c H1 locs1 cells slots Q (F0 m (pc + 3) ls rest)) : W p l e R s m args below meth c H locs cells slots Q (F0 m pc ls stk) := by
  obtain ⟨hx, hb, hml, hown, hts, hK, hA, hlocks⟩ := X
  have hF := g_frame G hA
  obtain ⟨hP, hD, hS⟩ := G
  refine va_callv (va_runV (As := As) (rest := rest) ⟨hx, hb, hml, hown, hts⟩ (hM H.size) (cwV k hts (gT_goodV hc.1) rfl rfl rfl hc.2 hR) ⟨CtP_blind, va_recv hK hP (ci := ci) (q0 := q0) hcl he, fun U hU hW => ⟨rfl, by rw [hU], by rw [hU]; exact hP, va_K.moved hW.alike hK, hD.weaken (fun _ _ _ _ => trivial)⟩⟩ rfl hlen hls hst (lv_room hroom) hdg hf) hS (fun q _ h => hF q h) hF (fun u t H1 locs1 ht hvm hw hB hz1 hk1 hS1 => ?_)
  exact kk H1 locs1 ⟨by rw [← ht]; exact hB.1, hB.2.2.weaken (fun _ _ _ h => hF _ h), hS1⟩
theorem g_callS {y2 : MethodName} {cc2 : ByteArray} {n2 : Nat} {ret2 : Option FieldType} {d2 k : Nat} {idx : Nat} {As : List Value} {r : Int32} (X : Cx p s m args meth c cc nL own E A) (hc : CalS own idx y2 cc2 n2 ret2 k) (hM : Ct l y2 cc2 n2 ret2 d2 E As w r w') (G : Gw E A s w H locs) (hR : d2 + 1 ≤ R.frames ∧ 8 + (n2 + 11) + 27 * d2 ≤ R.locals) (hf : cells ≤ R.cells ∧ slots ≤ R.slots) (hlen : As.length = k) (hls : ls.size = nL) (hst : stk = As.reverse ++ rest) (hroom : (rest.map fun v => v.category).sum ≤ 8) (hdg : decode cc pc = .ok (.invokestatic idx, 3))
    (kk : ∀ (H1 : Heap) (locs1 : List Loc), Gw E A s w' H1 locs1 → W p l e R s m args below meth c H1 locs1 cells slots Q (F0 m (pc + 3) ls (.int r :: rest))) : W p l e R s m args below meth c H locs cells slots Q (F0 m pc ls stk) := by
  obtain ⟨hx, hb, hml, hown, hts, hK, hA, hlocks⟩ := X
  have hF := g_frame G hA
  obtain ⟨hP, hD, hS⟩ := G
  refine va_calli (va_runS (As := As) (rest := rest) ⟨hx, hb, hml, hown, hts⟩ (hM H.size) (va_cwS k hts (gT_goodS hc.1) rfl rfl rfl hc.2 hR) ⟨CtP_blind, fun U hU hW => ⟨rfl, by rw [hU], by rw [hU]; exact hP, va_K.moved hW.alike hK, hD.weaken (fun _ _ _ _ => trivial)⟩⟩ rfl hlen hls hst (lv_room hroom) hdg hf) hS (fun q _ h => hF q h) hF (fun r1 u t H1 locs1 ht hvm hw hB hz1 hk1 hS1 => ?_)
  subst hw
  exact kk H1 locs1 ⟨by rw [← ht]; exact hB.1, hB.2.2.weaken (fun _ _ _ h => hF _ h), hS1⟩
/-- a field of a class of ours -/
def Fl (own : String) (idx ci k : Nat) (C : String) (T : u_T) (N : Nat) : Prop := classes[ci]? = some (C, T, N) ∧ k < N ∧ (∀ w ∈ u_ws C T N, w ∈ gT) ∧ Cond.fieldLink own idx (T k).1 (T k).2.1 (T k).2.2.1 ∈ gT
theorem g_get {idx ci k : Nat} {C : String} {T : u_T} {N : Nat} {fs : List Value} {v : Value} (X : Cx p s m args meth c cc nL own E A) (G : Gw E A s w H locs) (hf : Fl own idx ci k C T N) (q0 : Nat) (he : w[q0]? = some (a, .inr (ci, fs))) (hv : fs[k]? = some v) (hdg : decode cc pc = .ok (.getfield idx, 3))
    (kk : W p l e R s m args below meth c H locs cells slots Q (F0 m (pc + 3) ls (v :: rest))) : W p l e R s m args below meth c H locs cells slots Q (F0 m pc ls (.ref a :: rest)) := by
  obtain ⟨hx, hb, hml, hown, hts, hK, hA, hlocks⟩ := X
  obtain ⟨h1, h2, h3, h4⟩ := hf
  exact va_get hx hb hts h3 hown hK G.1 q0 he h1 k h2 (hts _ h4) (fun _ h => h) hv hdg kk
theorem g_put {idx ci k : Nat} {C : String} {T : u_T} {N : Nat} {fs : List Value} {x : Int32} (X : Cx p s m args meth c cc nL own E A) (G : Gw E A s w H locs) (hf : Fl own idx ci k C T N) (ty0 : Nat → FieldType) (hty : ∀ k, k < N → parseFieldDescriptor (T k).2.2.1 = some (ty0 k)) (hnm : ∀ a, a < N → ∀ b, b < N → a ≠ b → (T a).2.1 ≠ (T b).2.1) (q0 : Nat) (he : w[q0]? = some (a, .inr (ci, fs))) (hfin : (T k).2.2.2 = false) (hd : parseFieldDescriptor (T k).2.2.1 = some .int) (hl : k < fs.length) (hdg : decode cc pc = .ok (.putfield idx, 3))
    (kk : ∀ (H1 : Heap) (locs1 : List Loc), Gw E A s (w.set q0 (a, .inr (ci, fs.set k (.int x)))) H1 locs1 → W p l e R s m args below meth c H1 locs1 cells slots Q (F0 m (pc + 3) ls rest)) : W p l e R s m args below meth c H locs cells slots Q (F0 m pc ls (.int x :: .ref a :: rest)) := by
  obtain ⟨hx, hb, hml, hown, hts, hK, hA, hlocks⟩ := X
  obtain ⟨h1, h2, h3, h4⟩ := hf
  exact va_put hx hb hts h3 ty0 hty hnm hown hK G.1 G.2.1 G.2.2 q0 he h1 k h2 (hts _ h4) (fun _ h => h) hfin hd (vp_nar_int x) rfl hl hdg (fun H1 locs1 a1 a2 a3 => kk H1 locs1 ⟨a1, a2, a3⟩)
theorem g_iald {n j : Nat} {f : Nat → Int32} {i : Int32} (X : Cx p s m args meth c cc nL own E A) (G : Gw E A s w H locs) (q0 : Nat) (he : w[q0]? = some (a, .inl (E.2.1, n, .inl f))) (hi : i = nI j) (hj : j < n) (hn : n < 2 ^ 31) (hdg : decode cc pc = .ok (.iaload, 1))
    (kk : W p l e R s m args below meth c H locs cells slots Q (F0 m (pc + 1) ls (.int (f j) :: rest))) : W p l e R s m args below meth c H locs cells slots Q (F0 m pc ls (.int i :: .ref a :: rest)) := by
  obtain ⟨hx, hb, hml, hown, hts, hK, hA, hlocks⟩ := X
  subst hi
  refine va_iald hx hb hK G.1 q0 0 he rfl (vp_in_nI hj hn) hdg ?_
  rw [nI_clamp (Nat.lt_trans hj hn)]
  exact kk
theorem g_zald {n j : Nat} {f : Nat → Int32} {i : Int32} (X : Cx p s m args meth c cc nL own E A) (G : Gw E A s w H locs) (q0 : Nat) (he : w[q0]? = some (a, .inl (E.2.2.1, n, .inl f))) (hi : i = nI j) (hj : j < n) (hn : n < 2 ^ 31) (hdg : decode cc pc = .ok (.baload, 1))
    (kk : W p l e R s m args below meth c H locs cells slots Q (F0 m (pc + 1) ls (.int (f j) :: rest))) : W p l e R s m args below meth c H locs cells slots Q (F0 m pc ls (.int i :: .ref a :: rest)) := by
  obtain ⟨hx, hb, hml, hown, hts, hK, hA, hlocks⟩ := X
  subst hi
  refine va_zald hx hb hK G.1 q0 1 he rfl (vp_in_nI hj hn) hdg ?_
  rw [nI_clamp (Nat.lt_trans hj hn)]
  exact kk
theorem g_iast {n j : Nat} {f : Nat → Int32} {i x : Int32} (X : Cx p s m args meth c cc nL own E A) (G : Gw E A s w H locs) (q0 : Nat) (he : w[q0]? = some (a, .inl (E.2.1, n, .inl f))) (hi : i = nI j) (hj : j < n) (hn : n < 2 ^ 31) (hdg : decode cc pc = .ok (.iastore, 1))
    (kk : ∀ (H1 : Heap) (locs1 : List Loc), Gw E A s (w.set q0 (a, .inl (E.2.1, n, .inl (upd f j x)))) H1 locs1 → W p l e R s m args below meth c H1 locs1 cells slots Q (F0 m (pc + 1) ls rest)) : W p l e R s m args below meth c H locs cells slots Q (F0 m pc ls (.int x :: .int i :: .ref a :: rest)) := by
  obtain ⟨hx, hb, hml, hown, hts, hK, hA, hlocks⟩ := X
  subst hi
  refine va_iast hx hb hK G.1 G.2.1 G.2.2 q0 0 he rfl (vp_in_nI hj hn) hdg (fun H1 locs1 a1 a2 a3 => kk H1 locs1 ?_)
  rw [nI_clamp (Nat.lt_trans hj hn)] at a1 a2
  exact ⟨a1, a2, a3⟩
/-- numbers that are known as naturals -/
theorem n_iadd {x y : Int32} (a b : Nat) (hx' : x = nI a) (hy : y = nI b) (hexec : p.tables.exec = Jvm.exec) (hb : c.code = cc) (hdg : decode cc pc = .ok (.iadd, 1)) (k : W p l e R s m args below meth c H locs cells slots Q (F0 m (pc + 1) ls (.int (nI (a + b)) :: rest))) : W p l e R s m args below meth c H locs cells slots Q (F0 m pc ls (.int y :: .int x :: rest)) := by
  subst hx'; subst hy
  refine lv_iadd hexec hb hdg ?_
  rw [nI_add]; exact k
theorem n_isub {x y : Int32} (a b : Nat) (hx' : x = nI a) (hy : y = nI b) (hab : b ≤ a) (hexec : p.tables.exec = Jvm.exec) (hb : c.code = cc) (hdg : decode cc pc = .ok (.isub, 1)) (k : W p l e R s m args below meth c H locs cells slots Q (F0 m (pc + 1) ls (.int (nI (a - b)) :: rest))) : W p l e R s m args below meth c H locs cells slots Q (F0 m pc ls (.int y :: .int x :: rest)) := by
  subst hx'; subst hy
  refine lv_isub hexec hb hdg ?_
  rw [pk_sub hab]; exact k
theorem n_imul {x y : Int32} (a b : Nat) (hx' : x = nI a) (hy : y = nI b) (hexec : p.tables.exec = Jvm.exec) (hb : c.code = cc) (hdg : decode cc pc = .ok (.imul, 1)) (k : W p l e R s m args below meth c H locs cells slots Q (F0 m (pc + 1) ls (.int (nI (a * b)) :: rest))) : W p l e R s m args below meth c H locs cells slots Q (F0 m pc ls (.int y :: .int x :: rest)) := by
  subst hx'; subst hy
  refine lv_imul hexec hb hdg ?_
  rw [pk_mul]; exact k
theorem n_idiv {x y : Int32} (a b : Nat) (hx' : x = nI a) (hy : y = nI b) (ha : a < 2 ^ 31) (h0 : 0 < b) (hb2 : b < 2 ^ 31) (hexec : p.tables.exec = Jvm.exec) (hb : c.code = cc) (hdg : decode cc pc = .ok (.idiv, 1)) (k : W p l e R s m args below meth c H locs cells slots Q (F0 m (pc + 1) ls (.int (nI (a / b)) :: rest))) : W p l e R s m args below meth c H locs cells slots Q (F0 m pc ls (.int y :: .int x :: rest)) := by
  subst hx'; subst hy
  refine lv_idiv hexec hb hdg (nI_ne0 h0 hb2) ?_
  rw [pk_div ha h0 hb2]; exact k
theorem n_irem {x y : Int32} (a b : Nat) (hx' : x = nI a) (hy : y = nI b) (ha : a < 2 ^ 31) (h0 : 0 < b) (hb2 : b < 2 ^ 31) (hexec : p.tables.exec = Jvm.exec) (hb : c.code = cc) (hdg : decode cc pc = .ok (.irem, 1)) (k : W p l e R s m args below meth c H locs cells slots Q (F0 m (pc + 1) ls (.int (nI (a % b)) :: rest))) : W p l e R s m args below meth c H locs cells slots Q (F0 m pc ls (.int y :: .int x :: rest)) := by
  subst hx'; subst hy
  refine lv_irem hexec hb hdg (nI_ne0 h0 hb2) ?_
  rw [pk_rem ha h0 hb2]; exact k
theorem n_cmp_eq {x y : Int32} (a b : Nat) (hx' : x = nI a) (hy : y = nI b) (ha : a < 2 ^ 31) (hb2 : b < 2 ^ 31) {off : Int} {tgt : Nat} (hexec : p.tables.exec = Jvm.exec) (hb : c.code = cc) (hdg : decode cc pc = .ok (.if_icmp .eq off, 3)) (ht : (pc : Int) + off = (tgt : Int)) (kt : a = b → W p l e R s m args below meth c H locs cells slots Q (F0 m tgt ls rest)) (kf : ¬ a = b → W p l e R s m args below meth c H locs cells slots Q (F0 m (pc + 3) ls rest)) : W p l e R s m args below meth c H locs cells slots Q (F0 m pc ls (.int y :: .int x :: rest)) := by
  subst hx'; subst hy
  exact lv_icmp_eq hexec hb hdg ht (fun h => kt ((nI_eq ha hb2).mp h)) (fun h => kf (fun q => h ((nI_eq ha hb2).mpr q)))
theorem n_cmp_ne {x y : Int32} (a b : Nat) (hx' : x = nI a) (hy : y = nI b) (ha : a < 2 ^ 31) (hb2 : b < 2 ^ 31) {off : Int} {tgt : Nat} (hexec : p.tables.exec = Jvm.exec) (hb : c.code = cc) (hdg : decode cc pc = .ok (.if_icmp .ne off, 3)) (ht : (pc : Int) + off = (tgt : Int)) (kt : ¬ a = b → W p l e R s m args below meth c H locs cells slots Q (F0 m tgt ls rest)) (kf : a = b → W p l e R s m args below meth c H locs cells slots Q (F0 m (pc + 3) ls rest)) : W p l e R s m args below meth c H locs cells slots Q (F0 m pc ls (.int y :: .int x :: rest)) := by
  subst hx'; subst hy
  exact lv_icmp_ne hexec hb hdg ht (fun h => kt (fun q => h ((nI_eq ha hb2).mpr q))) (fun h => kf ((nI_eq ha hb2).mp h))
theorem n_cmp_lt {x y : Int32} (a b : Nat) (hx' : x = nI a) (hy : y = nI b) (ha : a < 2 ^ 31) (hb2 : b < 2 ^ 31) {off : Int} {tgt : Nat} (hexec : p.tables.exec = Jvm.exec) (hb : c.code = cc) (hdg : decode cc pc = .ok (.if_icmp .lt off, 3)) (ht : (pc : Int) + off = (tgt : Int)) (kt : a < b → W p l e R s m args below meth c H locs cells slots Q (F0 m tgt ls rest)) (kf : ¬ a < b → W p l e R s m args below meth c H locs cells slots Q (F0 m (pc + 3) ls rest)) : W p l e R s m args below meth c H locs cells slots Q (F0 m pc ls (.int y :: .int x :: rest)) := by
  subst hx'; subst hy
  exact lv_icmp_lt hexec hb hdg ht (fun h => kt ((nI_ltI ha hb2).mp h)) (fun h => kf (fun q => h ((nI_ltI ha hb2).mpr q)))
theorem n_cmp_ge {x y : Int32} (a b : Nat) (hx' : x = nI a) (hy : y = nI b) (ha : a < 2 ^ 31) (hb2 : b < 2 ^ 31) {off : Int} {tgt : Nat} (hexec : p.tables.exec = Jvm.exec) (hb : c.code = cc) (hdg : decode cc pc = .ok (.if_icmp .ge off, 3)) (ht : (pc : Int) + off = (tgt : Int)) (kt : b ≤ a → W p l e R s m args below meth c H locs cells slots Q (F0 m tgt ls rest)) (kf : ¬ b ≤ a → W p l e R s m args below meth c H locs cells slots Q (F0 m (pc + 3) ls rest)) : W p l e R s m args below meth c H locs cells slots Q (F0 m pc ls (.int y :: .int x :: rest)) := by
  subst hx'; subst hy
  exact lv_icmp_ge hexec hb hdg ht (fun h => kt ((nI_leI hb2 ha).mp h)) (fun h => kf (fun q => h ((nI_leI hb2 ha).mpr q)))
theorem n_cmp_gt {x y : Int32} (a b : Nat) (hx' : x = nI a) (hy : y = nI b) (ha : a < 2 ^ 31) (hb2 : b < 2 ^ 31) {off : Int} {tgt : Nat} (hexec : p.tables.exec = Jvm.exec) (hb : c.code = cc) (hdg : decode cc pc = .ok (.if_icmp .gt off, 3)) (ht : (pc : Int) + off = (tgt : Int)) (kt : b < a → W p l e R s m args below meth c H locs cells slots Q (F0 m tgt ls rest)) (kf : ¬ b < a → W p l e R s m args below meth c H locs cells slots Q (F0 m (pc + 3) ls rest)) : W p l e R s m args below meth c H locs cells slots Q (F0 m pc ls (.int y :: .int x :: rest)) := by
  subst hx'; subst hy
  exact lv_icmp_gt hexec hb hdg ht (fun h => kt ((nI_ltI hb2 ha).mp h)) (fun h => kf (fun q => h ((nI_ltI hb2 ha).mpr q)))
theorem n_cmp_le {x y : Int32} (a b : Nat) (hx' : x = nI a) (hy : y = nI b) (ha : a < 2 ^ 31) (hb2 : b < 2 ^ 31) {off : Int} {tgt : Nat} (hexec : p.tables.exec = Jvm.exec) (hb : c.code = cc) (hdg : decode cc pc = .ok (.if_icmp .le off, 3)) (ht : (pc : Int) + off = (tgt : Int)) (kt : a ≤ b → W p l e R s m args below meth c H locs cells slots Q (F0 m tgt ls rest)) (kf : ¬ a ≤ b → W p l e R s m args below meth c H locs cells slots Q (F0 m (pc + 3) ls rest)) : W p l e R s m args below meth c H locs cells slots Q (F0 m pc ls (.int y :: .int x :: rest)) := by
  subst hx'; subst hy
  exact lv_icmp_le hexec hb hdg ht (fun h => kt ((nI_leI ha hb2).mp h)) (fun h => kf (fun q => h ((nI_leI ha hb2).mpr q)))
end GR
def bI (b : Bool) : Int32 := cond b 1 0
theorem bI_t : bI true = 1 := rfl
theorem bI_f : bI false = 0 := rfl
theorem bI_ne {b : Bool} (h : ¬ bI b = 0) : b = true := by cases b; exact absurd rfl h; rfl
theorem bI_eq {b : Bool} (h : bI b = 0) : b = false := by cases b; rfl; exact absurd h (by decide)
theorem bI_nar (b : Bool) : narrow .boolean (.int (bI b)) = .int (bI b) := by cases b <;> rfl
def oI (o : Option Nat) : Int32 := match o with
  | none => -6
  | some j => nI j
theorem nI_m6 {j : Nat} (h : j < 2 ^ 31) : ¬ nI j = -6 := by
  intro q
  have := nI_pos h
  rw [q] at this
  exact this (by decide)
theorem nI_cz {j : Nat} (h : j < 2 ^ 31) : ¬ nI j < 0 := nI_pos h
section GB
variable {p : Program} {l : Launch} {e : Env} {R : Room} {s : State} {m : MethodId} {args : Array Value} {below : List Frame} {meth : Method} {c : Code} {H : Heap} {locs : List Loc} {cells slots : Nat} {Q : State → Prop}
variable {cc : ByteArray} {pc : Nat} {ls : Array Slot} {rest : List Value}
theorem b_ifeq {b : Bool} {off : Int} {tgt : Nat} (hexec : p.tables.exec = Jvm.exec) (hb : c.code = cc) (hdg : decode cc pc = .ok (.ifCond .eq off, 3)) (ht : (pc : Int) + off = (tgt : Int)) (kt : b = false → W p l e R s m args below meth c H locs cells slots Q (F0 m tgt ls rest)) (kf : b = true → W p l e R s m args below meth c H locs cells slots Q (F0 m (pc + 3) ls rest)) : W p l e R s m args below meth c H locs cells slots Q (F0 m pc ls (.int (bI b) :: rest)) :=
  lv_if_eq hexec hb hdg ht (fun h => kt (bI_eq h)) (fun h => kf (bI_ne h))
theorem b_ifne {b : Bool} {off : Int} {tgt : Nat} (hexec : p.tables.exec = Jvm.exec) (hb : c.code = cc) (hdg : decode cc pc = .ok (.ifCond .ne off, 3)) (ht : (pc : Int) + off = (tgt : Int)) (kt : b = true → W p l e R s m args below meth c H locs cells slots Q (F0 m tgt ls rest)) (kf : b = false → W p l e R s m args below meth c H locs cells slots Q (F0 m (pc + 3) ls rest)) : W p l e R s m args below meth c H locs cells slots Q (F0 m pc ls (.int (bI b) :: rest)) :=
  lv_if_ne hexec hb hdg ht (fun h => kt (bI_ne h)) (fun h => kf (bI_eq h))
end GB
/-! the world of a box: its object, its rules, its bindings, its packets; st k: row k (0 rules, 1 inner, 2 is, 3 used, 4 onlyRemote, 5 onlyPort, 6 sentBits, 7 knownBy, 8 knownSince, 9 held, 10 heldSince; 11: time at place 0) -/
abbrev St : Type := Nat → Nat → Int32
def sU (st : St) (k i : Nat) (v : Int32) : St := fun k' => cond (Nat.beq k' k) (upd (st k) i v) (st k')
theorem sU_at (st : St) (k i : Nat) (v : Int32) (k' i' : Nat) : sU st k i v k' i' = if k' = k ∧ i' = i then v else st k' i' := by
  unfold sU
  by_cases h : k' = k
  · subst h
    rw [show Nat.beq k' k' = true from Nat.beq_refl k']
    show upd (st k') i v i' = _
    unfold upd
    by_cases h2 : i' = i
    · rw [if_pos h2, if_pos ⟨rfl, h2⟩]
    · rw [if_neg h2, if_neg (fun q => h2 q.2)]
  · rw [if_neg (fun q => h q.1)]
    cases hb : Nat.beq k' k with
    | true => exact absurd (Nat.eq_of_beq_eq_true hb) h
    | false => rfl
abbrev wB (E : EE) (a : Nat → Nat) (st : St) (w : va_W) : va_W :=
  (a 0, .inr (1, [.ref (a 1), .ref (a 2), .ref (a 3), .int (st 11 0)])) :: (a 1, .inl (E.2.1, 6, .inl (st 0))) :: (a 2, .inr (0, [.ref (a 4), .ref (a 5), .ref (a 6), .ref (a 7), .ref (a 8), .ref (a 9)])) :: (a 3, .inr (2, [.ref (a 10), .ref (a 11), .ref (a 12), .ref (a 13)])) :: (a 4, .inl (E.2.1, 16, .inl (st 1))) :: (a 5, .inl (E.2.1, 16, .inl (st 2))) :: (a 6, .inl (E.2.1, 16, .inl (st 3))) :: (a 7, .inl (E.2.1, 16, .inl (st 4))) :: (a 8, .inl (E.2.1, 16, .inl (st 5))) :: (a 9, .inl (E.2.1, 80, .inl (st 6))) :: (a 10, .inl (E.2.1, 32, .inl (st 7))) :: (a 11, .inl (E.2.1, 32, .inl (st 8))) :: (a 12, .inl (E.2.1, 6, .inl (st 9))) :: (a 13, .inl (E.2.1, 6, .inl (st 10))) :: w
/-- the world of the reference: its object, its numbers, its images, which are kept -/
abbrev wM (E : EE) (a : Nat → Nat) (st : St) (w : va_W) : va_W :=
  (a 0, .inr (4, [.ref (a 1), .ref (a 2), .ref (a 3)])) :: (a 1, .inl (E.2.1, 503, .inl (st 0))) :: (a 2, .inl (E.2.1, 1006, .inl (st 1))) :: (a 3, .inl (E.2.2.1, 2, .inl (st 2))) :: w
end
section
set_option maxRecDepth 20000 in
theorem uX0 : ∀ w ∈ wsX00, w ∈ gT := gT_r _ [80, 82, 84, 86, 88, 90] (by decide +kernel) (by decide +kernel)
set_option maxRecDepth 20000 in
theorem uX1 : ∀ w ∈ wsX10, w ∈ gT := gT_r _ [122, 124, 126, 128] (by decide +kernel) (by decide +kernel)
set_option maxRecDepth 20000 in
theorem uX2 : ∀ w ∈ wsX20, w ∈ gT := gT_r _ [105, 107, 109, 111] (by decide +kernel) (by decide +kernel)
set_option maxRecDepth 20000 in
theorem uX3 : ∀ w ∈ wsX30, w ∈ gT := gT_r _ [135, 137, 139] (by decide +kernel) (by decide +kernel)
set_option maxRecDepth 20000 in
theorem uX4 : ∀ w ∈ wsX40, w ∈ gT := gT_r _ [462, 464, 466] (by decide +kernel) (by decide +kernel)
theorem fX0_9 : Fl RX0 9 0 0 RX0 TX0 6 := ⟨rfl, by decide, uX0, gT_in 69 (by decide +kernel) (by decide +kernel)⟩
theorem fX1_77 : Fl RX1 77 0 0 RX0 TX0 6 := ⟨rfl, by decide, uX0, gT_in 70 (by decide +kernel) (by decide +kernel)⟩
theorem fX0_15 : Fl RX0 15 0 1 RX0 TX0 6 := ⟨rfl, by decide, uX0, gT_in 71 (by decide +kernel) (by decide +kernel)⟩
theorem fX1_63 : Fl RX1 63 0 1 RX0 TX0 6 := ⟨rfl, by decide, uX0, gT_in 72 (by decide +kernel) (by decide +kernel)⟩
theorem fX0_18 : Fl RX0 18 0 2 RX0 TX0 6 := ⟨rfl, by decide, uX0, gT_in 73 (by decide +kernel) (by decide +kernel)⟩
theorem fX1_60 : Fl RX1 60 0 2 RX0 TX0 6 := ⟨rfl, by decide, uX0, gT_in 74 (by decide +kernel) (by decide +kernel)⟩
theorem fX0_21 : Fl RX0 21 0 3 RX0 TX0 6 := ⟨rfl, by decide, uX0, gT_in 75 (by decide +kernel) (by decide +kernel)⟩
theorem fX1_133 : Fl RX1 133 0 3 RX0 TX0 6 := ⟨rfl, by decide, uX0, gT_in 76 (by decide +kernel) (by decide +kernel)⟩
theorem fX0_24 : Fl RX0 24 0 4 RX0 TX0 6 := ⟨rfl, by decide, uX0, gT_in 77 (by decide +kernel) (by decide +kernel)⟩
theorem fX1_136 : Fl RX1 136 0 4 RX0 TX0 6 := ⟨rfl, by decide, uX0, gT_in 78 (by decide +kernel) (by decide +kernel)⟩
theorem fX0_27 : Fl RX0 27 0 5 RX0 TX0 6 := ⟨rfl, by decide, uX0, gT_in 79 (by decide +kernel) (by decide +kernel)⟩
theorem fX2_9 : Fl RX2 9 2 0 RX2 TX2 4 := ⟨rfl, by decide, uX2, gT_in 101 (by decide +kernel) (by decide +kernel)⟩
theorem fX2_15 : Fl RX2 15 2 1 RX2 TX2 4 := ⟨rfl, by decide, uX2, gT_in 102 (by decide +kernel) (by decide +kernel)⟩
theorem fX2_18 : Fl RX2 18 2 2 RX2 TX2 4 := ⟨rfl, by decide, uX2, gT_in 103 (by decide +kernel) (by decide +kernel)⟩
theorem fX2_21 : Fl RX2 21 2 3 RX2 TX2 4 := ⟨rfl, by decide, uX2, gT_in 104 (by decide +kernel) (by decide +kernel)⟩
theorem fX1_18 : Fl RX1 18 1 0 RX1 TX1 4 := ⟨rfl, by decide, uX1, gT_in 114 (by decide +kernel) (by decide +kernel)⟩
theorem fX3_129 : Fl RX3 129 1 0 RX1 TX1 4 := ⟨rfl, by decide, uX1, gT_in 115 (by decide +kernel) (by decide +kernel)⟩
theorem fX1_26 : Fl RX1 26 1 1 RX1 TX1 4 := ⟨rfl, by decide, uX1, gT_in 116 (by decide +kernel) (by decide +kernel)⟩
theorem fX3_63 : Fl RX3 63 1 1 RX1 TX1 4 := ⟨rfl, by decide, uX1, gT_in 117 (by decide +kernel) (by decide +kernel)⟩
theorem fX1_33 : Fl RX1 33 1 2 RX1 TX1 4 := ⟨rfl, by decide, uX1, gT_in 118 (by decide +kernel) (by decide +kernel)⟩
theorem fX3_114 : Fl RX3 114 1 2 RX1 TX1 4 := ⟨rfl, by decide, uX1, gT_in 119 (by decide +kernel) (by decide +kernel)⟩
theorem fX1_37 : Fl RX1 37 1 3 RX1 TX1 4 := ⟨rfl, by decide, uX1, gT_in 120 (by decide +kernel) (by decide +kernel)⟩
theorem fX3_107 : Fl RX3 107 1 3 RX1 TX1 4 := ⟨rfl, by decide, uX1, gT_in 121 (by decide +kernel) (by decide +kernel)⟩
theorem fX3_10 : Fl RX3 10 3 0 RX3 TX3 3 := ⟨rfl, by decide, uX3, gT_in 132 (by decide +kernel) (by decide +kernel)⟩
theorem fX3_16 : Fl RX3 16 3 1 RX3 TX3 3 := ⟨rfl, by decide, uX3, gT_in 133 (by decide +kernel) (by decide +kernel)⟩
theorem fX3_20 : Fl RX3 20 3 2 RX3 TX3 3 := ⟨rfl, by decide, uX3, gT_in 134 (by decide +kernel) (by decide +kernel)⟩
theorem fX4_7 : Fl RX4 7 4 0 RX4 TX4 3 := ⟨rfl, by decide, uX4, gT_in 459 (by decide +kernel) (by decide +kernel)⟩
theorem fX4_13 : Fl RX4 13 4 1 RX4 TX4 3 := ⟨rfl, by decide, uX4, gT_in 460 (by decide +kernel) (by decide +kernel)⟩
theorem fX4_16 : Fl RX4 16 4 2 RX4 TX4 3 := ⟨rfl, by decide, uX4, gT_in 461 (by decide +kernel) (by decide +kernel)⟩
theorem kX0_30 : CalS RX0 30 yJ7_fill_53178 cJ7_fill_53178 4 none 2 := ⟨⟨gT_in 66 (by decide +kernel) (by decide +kernel), gT_in 67 (by decide +kernel) (by decide +kernel), gT_in 32 (by decide +kernel) (by decide +kernel), gT_in 68 (by decide +kernel) (by decide +kernel)⟩, by decide +kernel, by decide +kernel, by decide +kernel⟩
theorem kX2_24 : CalS RX2 24 yJ7_fill_53178 cJ7_fill_53178 4 none 2 := ⟨⟨gT_in 100 (by decide +kernel) (by decide +kernel), gT_in 67 (by decide +kernel) (by decide +kernel), gT_in 32 (by decide +kernel) (by decide +kernel), gT_in 68 (by decide +kernel) (by decide +kernel)⟩, by decide +kernel, by decide +kernel, by decide +kernel⟩
theorem kL_13 : CalV RL 13 RX3 yX3_rule cX3_rule 3 (some .int) 2 := ⟨⟨gT_in 143 (by decide +kernel) (by decide +kernel), gT_in 144 (by decide +kernel) (by decide +kernel), gT_in 145 (by decide +kernel) (by decide +kernel), gT_in 29 (by decide +kernel) (by decide +kernel), gT_in 146 (by decide +kernel) (by decide +kernel)⟩, by decide +kernel, by decide +kernel, by decide +kernel, by decide +kernel⟩
theorem kX3_24 : CalS RX3 24 yX3_isBelow cX3_isBelow 2 (some .boolean) 2 := ⟨⟨gT_in 147 (by decide +kernel) (by decide +kernel), gT_in 148 (by decide +kernel) (by decide +kernel), gT_in 29 (by decide +kernel) (by decide +kernel), gT_in 149 (by decide +kernel) (by decide +kernel)⟩, by decide +kernel, by decide +kernel, by decide +kernel⟩
theorem kX3_35 : CalV RX3 35 RX1 yX1_setRule cX1_setRule 4 (some .int) 2 := ⟨⟨gT_in 154 (by decide +kernel) (by decide +kernel), gT_in 155 (by decide +kernel) (by decide +kernel), gT_in 156 (by decide +kernel) (by decide +kernel), gT_in 30 (by decide +kernel) (by decide +kernel), gT_in 157 (by decide +kernel) (by decide +kernel)⟩, by decide +kernel, by decide +kernel, by decide +kernel, by decide +kernel⟩
theorem kX1_41 : CalV RX1 41 RX1 yX1_endAll cX1_endAll 2 none 0 := ⟨⟨gT_in 158 (by decide +kernel) (by decide +kernel), gT_in 159 (by decide +kernel) (by decide +kernel), gT_in 160 (by decide +kernel) (by decide +kernel), gT_in 30 (by decide +kernel) (by decide +kernel), gT_in 161 (by decide +kernel) (by decide +kernel)⟩, by decide +kernel, by decide +kernel, by decide +kernel, by decide +kernel⟩
theorem kX1_151 : CalV RX1 151 RX1 yX1_endBinding cX1_endBinding 2 none 1 := ⟨⟨gT_in 162 (by decide +kernel) (by decide +kernel), gT_in 163 (by decide +kernel) (by decide +kernel), gT_in 164 (by decide +kernel) (by decide +kernel), gT_in 30 (by decide +kernel) (by decide +kernel), gT_in 165 (by decide +kernel) (by decide +kernel)⟩, by decide +kernel, by decide +kernel, by decide +kernel, by decide +kernel⟩
theorem kX1_157 : CalV RX1 157 RX0 yX0_unlend cX0_unlend 2 none 1 := ⟨⟨gT_in 166 (by decide +kernel) (by decide +kernel), gT_in 167 (by decide +kernel) (by decide +kernel), gT_in 168 (by decide +kernel) (by decide +kernel), gT_in 31 (by decide +kernel) (by decide +kernel), gT_in 169 (by decide +kernel) (by decide +kernel)⟩, by decide +kernel, by decide +kernel, by decide +kernel, by decide +kernel⟩
theorem kX1_160 : CalV RX1 160 RX2 yX2_forgetAllOf cX2_forgetAllOf 3 none 1 := ⟨⟨gT_in 170 (by decide +kernel) (by decide +kernel), gT_in 171 (by decide +kernel) (by decide +kernel), gT_in 172 (by decide +kernel) (by decide +kernel), gT_in 33 (by decide +kernel) (by decide +kernel), gT_in 173 (by decide +kernel) (by decide +kernel)⟩, by decide +kernel, by decide +kernel, by decide +kernel, by decide +kernel⟩
theorem kX2_30 : CalV RX2 30 RX2 yX2_forget cX2_forget 2 none 1 := ⟨⟨gT_in 174 (by decide +kernel) (by decide +kernel), gT_in 175 (by decide +kernel) (by decide +kernel), gT_in 176 (by decide +kernel) (by decide +kernel), gT_in 33 (by decide +kernel) (by decide +kernel), gT_in 177 (by decide +kernel) (by decide +kernel)⟩, by decide +kernel, by decide +kernel, by decide +kernel, by decide +kernel⟩
theorem kX1_44 : CalV RX1 44 RX1 yX1_endLapsed cX1_endLapsed 3 (some .int) 0 := ⟨⟨gT_in 178 (by decide +kernel) (by decide +kernel), gT_in 179 (by decide +kernel) (by decide +kernel), gT_in 180 (by decide +kernel) (by decide +kernel), gT_in 30 (by decide +kernel) (by decide +kernel), gT_in 181 (by decide +kernel) (by decide +kernel)⟩, by decide +kernel, by decide +kernel, by decide +kernel, by decide +kernel⟩
theorem kX1_80 : CalV RX1 80 RX0 yX0_isLent cX0_isLent 2 (some .boolean) 1 := ⟨⟨gT_in 182 (by decide +kernel) (by decide +kernel), gT_in 183 (by decide +kernel) (by decide +kernel), gT_in 184 (by decide +kernel) (by decide +kernel), gT_in 31 (by decide +kernel) (by decide +kernel), gT_in 185 (by decide +kernel) (by decide +kernel)⟩, by decide +kernel, by decide +kernel, by decide +kernel, by decide +kernel⟩
theorem kX1_127 : CalV RX1 127 RX1 yX1_ticksLeft cX1_ticksLeft 2 (some .int) 1 := ⟨⟨gT_in 186 (by decide +kernel) (by decide +kernel), gT_in 187 (by decide +kernel) (by decide +kernel), gT_in 188 (by decide +kernel) (by decide +kernel), gT_in 30 (by decide +kernel) (by decide +kernel), gT_in 189 (by decide +kernel) (by decide +kernel)⟩, by decide +kernel, by decide +kernel, by decide +kernel, by decide +kernel⟩
theorem kX1_148 : CalV RX1 148 RX1 yX1_lifeOf cX1_lifeOf 2 (some .int) 1 := ⟨⟨gT_in 190 (by decide +kernel) (by decide +kernel), gT_in 191 (by decide +kernel) (by decide +kernel), gT_in 192 (by decide +kernel) (by decide +kernel), gT_in 30 (by decide +kernel) (by decide +kernel), gT_in 193 (by decide +kernel) (by decide +kernel)⟩, by decide +kernel, by decide +kernel, by decide +kernel, by decide +kernel⟩
theorem kL_18 : CalV RL 18 RX3 yX3_out cX3_out 6 (some .int) 5 := ⟨⟨gT_in 194 (by decide +kernel) (by decide +kernel), gT_in 195 (by decide +kernel) (by decide +kernel), gT_in 196 (by decide +kernel) (by decide +kernel), gT_in 29 (by decide +kernel) (by decide +kernel), gT_in 197 (by decide +kernel) (by decide +kernel)⟩, by decide +kernel, by decide +kernel, by decide +kernel, by decide +kernel⟩
theorem kX3_39 : CalS RX3 39 yX3_isRemotePort cX3_isRemotePort 2 (some .boolean) 2 := ⟨⟨gT_in 198 (by decide +kernel) (by decide +kernel), gT_in 199 (by decide +kernel) (by decide +kernel), gT_in 29 (by decide +kernel) (by decide +kernel), gT_in 200 (by decide +kernel) (by decide +kernel)⟩, by decide +kernel, by decide +kernel, by decide +kernel⟩
theorem kX3_42 : CalV RX3 42 RX1 yX1_goOut cX1_goOut 7 (some .int) 5 := ⟨⟨gT_in 201 (by decide +kernel) (by decide +kernel), gT_in 202 (by decide +kernel) (by decide +kernel), gT_in 203 (by decide +kernel) (by decide +kernel), gT_in 30 (by decide +kernel) (by decide +kernel), gT_in 204 (by decide +kernel) (by decide +kernel)⟩, by decide +kernel, by decide +kernel, by decide +kernel, by decide +kernel⟩
theorem kX1_48 : CalV RX1 48 RX0 yX0_seek cX0_seek 5 (some .int) 3 := ⟨⟨gT_in 205 (by decide +kernel) (by decide +kernel), gT_in 206 (by decide +kernel) (by decide +kernel), gT_in 207 (by decide +kernel) (by decide +kernel), gT_in 31 (by decide +kernel) (by decide +kernel), gT_in 208 (by decide +kernel) (by decide +kernel)⟩, by decide +kernel, by decide +kernel, by decide +kernel, by decide +kernel⟩
theorem kX0_40 : CalV RX0 40 RX0 yX0_isFor cX0_isFor 4 (some .boolean) 3 := ⟨⟨gT_in 209 (by decide +kernel) (by decide +kernel), gT_in 210 (by decide +kernel) (by decide +kernel), gT_in 211 (by decide +kernel) (by decide +kernel), gT_in 31 (by decide +kernel) (by decide +kernel), gT_in 212 (by decide +kernel) (by decide +kernel)⟩, by decide +kernel, by decide +kernel, by decide +kernel, by decide +kernel⟩
theorem kX1_52 : CalV RX1 52 RX1 yX1_makeBinding cX1_makeBinding 8 (some .int) 4 := ⟨⟨gT_in 213 (by decide +kernel) (by decide +kernel), gT_in 214 (by decide +kernel) (by decide +kernel), gT_in 215 (by decide +kernel) (by decide +kernel), gT_in 30 (by decide +kernel) (by decide +kernel), gT_in 216 (by decide +kernel) (by decide +kernel)⟩, by decide +kernel, by decide +kernel, by decide +kernel, by decide +kernel⟩
theorem kX1_66 : CalV RX1 66 RX1 yX1_choose cX1_choose 6 (some .int) 2 := ⟨⟨gT_in 217 (by decide +kernel) (by decide +kernel), gT_in 218 (by decide +kernel) (by decide +kernel), gT_in 219 (by decide +kernel) (by decide +kernel), gT_in 30 (by decide +kernel) (by decide +kernel), gT_in 220 (by decide +kernel) (by decide +kernel)⟩, by decide +kernel, by decide +kernel, by decide +kernel, by decide +kernel⟩
theorem kX1_115 : CalV RX1 115 RX1 yX1_isFit cX1_isFit 3 (some .boolean) 2 := ⟨⟨gT_in 221 (by decide +kernel) (by decide +kernel), gT_in 222 (by decide +kernel) (by decide +kernel), gT_in 223 (by decide +kernel) (by decide +kernel), gT_in 30 (by decide +kernel) (by decide +kernel), gT_in 224 (by decide +kernel) (by decide +kernel)⟩, by decide +kernel, by decide +kernel, by decide +kernel, by decide +kernel⟩
theorem kX1_118 : CalV RX1 118 RX0 yX0_holderOf cX0_holderOf 3 (some .int) 1 := ⟨⟨gT_in 225 (by decide +kernel) (by decide +kernel), gT_in 226 (by decide +kernel) (by decide +kernel), gT_in 227 (by decide +kernel) (by decide +kernel), gT_in 31 (by decide +kernel) (by decide +kernel), gT_in 228 (by decide +kernel) (by decide +kernel)⟩, by decide +kernel, by decide +kernel, by decide +kernel, by decide +kernel⟩
theorem kX0_36 : CalV RX0 36 RX0 yX0_isLent cX0_isLent 2 (some .boolean) 1 := ⟨⟨gT_in 229 (by decide +kernel) (by decide +kernel), gT_in 183 (by decide +kernel) (by decide +kernel), gT_in 184 (by decide +kernel) (by decide +kernel), gT_in 31 (by decide +kernel) (by decide +kernel), gT_in 185 (by decide +kernel) (by decide +kernel)⟩, by decide +kernel, by decide +kernel, by decide +kernel, by decide +kernel⟩
theorem kX0_50 : CalV RX0 50 RX0 yX0_hostOf cX0_hostOf 2 (some .int) 1 := ⟨⟨gT_in 230 (by decide +kernel) (by decide +kernel), gT_in 231 (by decide +kernel) (by decide +kernel), gT_in 232 (by decide +kernel) (by decide +kernel), gT_in 31 (by decide +kernel) (by decide +kernel), gT_in 233 (by decide +kernel) (by decide +kernel)⟩, by decide +kernel, by decide +kernel, by decide +kernel, by decide +kernel⟩
theorem kX1_121 : CalV RX1 121 RX1 yX1_leastFitOfHolder cX1_leastFitOfHolder 5 (some .int) 2 := ⟨⟨gT_in 234 (by decide +kernel) (by decide +kernel), gT_in 235 (by decide +kernel) (by decide +kernel), gT_in 236 (by decide +kernel) (by decide +kernel), gT_in 30 (by decide +kernel) (by decide +kernel), gT_in 237 (by decide +kernel) (by decide +kernel)⟩, by decide +kernel, by decide +kernel, by decide +kernel, by decide +kernel⟩
theorem kX1_124 : CalV RX1 124 RX1 yX1_leastFitOfBlock cX1_leastFitOfBlock 4 (some .int) 2 := ⟨⟨gT_in 238 (by decide +kernel) (by decide +kernel), gT_in 239 (by decide +kernel) (by decide +kernel), gT_in 240 (by decide +kernel) (by decide +kernel), gT_in 30 (by decide +kernel) (by decide +kernel), gT_in 241 (by decide +kernel) (by decide +kernel)⟩, by decide +kernel, by decide +kernel, by decide +kernel, by decide +kernel⟩
theorem kX1_70 : CalV RX1 70 RX0 yX0_lend cX0_lend 6 none 4 := ⟨⟨gT_in 242 (by decide +kernel) (by decide +kernel), gT_in 243 (by decide +kernel) (by decide +kernel), gT_in 244 (by decide +kernel) (by decide +kernel), gT_in 31 (by decide +kernel) (by decide +kernel), gT_in 245 (by decide +kernel) (by decide +kernel)⟩, by decide +kernel, by decide +kernel, by decide +kernel, by decide +kernel⟩
theorem kX1_56 : CalV RX1 56 RX0 yX0_markSent cX0_markSent 4 none 3 := ⟨⟨gT_in 246 (by decide +kernel) (by decide +kernel), gT_in 247 (by decide +kernel) (by decide +kernel), gT_in 248 (by decide +kernel) (by decide +kernel), gT_in 31 (by decide +kernel) (by decide +kernel), gT_in 249 (by decide +kernel) (by decide +kernel)⟩, by decide +kernel, by decide +kernel, by decide +kernel, by decide +kernel⟩
theorem kL_23 : CalV RL 23 RX3 yX3_in cX3_in 5 (some .int) 4 := ⟨⟨gT_in 250 (by decide +kernel) (by decide +kernel), gT_in 251 (by decide +kernel) (by decide +kernel), gT_in 252 (by decide +kernel) (by decide +kernel), gT_in 29 (by decide +kernel) (by decide +kernel), gT_in 253 (by decide +kernel) (by decide +kernel)⟩, by decide +kernel, by decide +kernel, by decide +kernel, by decide +kernel⟩
theorem kX3_46 : CalV RX3 46 RX1 yX1_comeIn cX1_comeIn 5 (some .int) 4 := ⟨⟨gT_in 254 (by decide +kernel) (by decide +kernel), gT_in 255 (by decide +kernel) (by decide +kernel), gT_in 256 (by decide +kernel) (by decide +kernel), gT_in 30 (by decide +kernel) (by decide +kernel), gT_in 257 (by decide +kernel) (by decide +kernel)⟩, by decide +kernel, by decide +kernel, by decide +kernel, by decide +kernel⟩
theorem kX1_74 : CalV RX1 74 RX1 yX1_reasonAgainst cX1_reasonAgainst 4 (some .int) 3 := ⟨⟨gT_in 258 (by decide +kernel) (by decide +kernel), gT_in 259 (by decide +kernel) (by decide +kernel), gT_in 260 (by decide +kernel) (by decide +kernel), gT_in 30 (by decide +kernel) (by decide +kernel), gT_in 261 (by decide +kernel) (by decide +kernel)⟩, by decide +kernel, by decide +kernel, by decide +kernel, by decide +kernel⟩
theorem kX1_84 : CalV RX1 84 RX0 yX0_isAnySent cX0_isAnySent 3 (some .boolean) 2 := ⟨⟨gT_in 262 (by decide +kernel) (by decide +kernel), gT_in 263 (by decide +kernel) (by decide +kernel), gT_in 264 (by decide +kernel) (by decide +kernel), gT_in 31 (by decide +kernel) (by decide +kernel), gT_in 265 (by decide +kernel) (by decide +kernel)⟩, by decide +kernel, by decide +kernel, by decide +kernel, by decide +kernel⟩
theorem kX1_88 : CalV RX1 88 RX0 yX0_isSent cX0_isSent 4 (some .boolean) 3 := ⟨⟨gT_in 266 (by decide +kernel) (by decide +kernel), gT_in 267 (by decide +kernel) (by decide +kernel), gT_in 268 (by decide +kernel) (by decide +kernel), gT_in 31 (by decide +kernel) (by decide +kernel), gT_in 269 (by decide +kernel) (by decide +kernel)⟩, by decide +kernel, by decide +kernel, by decide +kernel, by decide +kernel⟩
theorem kL_28 : CalV RL 28 RX3 yX3_turn cX3_turn 6 (some .int) 4 := ⟨⟨gT_in 270 (by decide +kernel) (by decide +kernel), gT_in 271 (by decide +kernel) (by decide +kernel), gT_in 272 (by decide +kernel) (by decide +kernel), gT_in 29 (by decide +kernel) (by decide +kernel), gT_in 273 (by decide +kernel) (by decide +kernel)⟩, by decide +kernel, by decide +kernel, by decide +kernel, by decide +kernel⟩
theorem kL_32 : CalV RL 32 RX3 yX3_part cX3_part 7 (some .int) 5 := ⟨⟨gT_in 274 (by decide +kernel) (by decide +kernel), gT_in 275 (by decide +kernel) (by decide +kernel), gT_in 276 (by decide +kernel) (by decide +kernel), gT_in 29 (by decide +kernel) (by decide +kernel), gT_in 277 (by decide +kernel) (by decide +kernel)⟩, by decide +kernel, by decide +kernel, by decide +kernel, by decide +kernel⟩
theorem kX3_50 : CalV RX3 50 RX1 yX1_takeOtherPart cX1_takeOtherPart 3 (some .int) 2 := ⟨⟨gT_in 278 (by decide +kernel) (by decide +kernel), gT_in 279 (by decide +kernel) (by decide +kernel), gT_in 280 (by decide +kernel) (by decide +kernel), gT_in 30 (by decide +kernel) (by decide +kernel), gT_in 281 (by decide +kernel) (by decide +kernel)⟩, by decide +kernel, by decide +kernel, by decide +kernel, by decide +kernel⟩
theorem kX1_106 : CalV RX1 106 RX2 yX2_isKnown cX2_isKnown 2 (some .boolean) 1 := ⟨⟨gT_in 282 (by decide +kernel) (by decide +kernel), gT_in 283 (by decide +kernel) (by decide +kernel), gT_in 284 (by decide +kernel) (by decide +kernel), gT_in 33 (by decide +kernel) (by decide +kernel), gT_in 285 (by decide +kernel) (by decide +kernel)⟩, by decide +kernel, by decide +kernel, by decide +kernel, by decide +kernel⟩
theorem kX1_109 : CalV RX1 109 RX2 yX2_hold cX2_hold 6 (some .int) 3 := ⟨⟨gT_in 286 (by decide +kernel) (by decide +kernel), gT_in 287 (by decide +kernel) (by decide +kernel), gT_in 288 (by decide +kernel) (by decide +kernel), gT_in 33 (by decide +kernel) (by decide +kernel), gT_in 289 (by decide +kernel) (by decide +kernel)⟩, by decide +kernel, by decide +kernel, by decide +kernel, by decide +kernel⟩
theorem kX2_34 : CalV RX2 34 RX2 yX2_placeOf cX2_placeOf 3 (some .int) 1 := ⟨⟨gT_in 290 (by decide +kernel) (by decide +kernel), gT_in 291 (by decide +kernel) (by decide +kernel), gT_in 292 (by decide +kernel) (by decide +kernel), gT_in 33 (by decide +kernel) (by decide +kernel), gT_in 293 (by decide +kernel) (by decide +kernel)⟩, by decide +kernel, by decide +kernel, by decide +kernel, by decide +kernel⟩
theorem kX3_53 : CalV RX3 53 RX1 yX1_takeFirstPart cX1_takeFirstPart 7 (some .int) 4 := ⟨⟨gT_in 294 (by decide +kernel) (by decide +kernel), gT_in 295 (by decide +kernel) (by decide +kernel), gT_in 296 (by decide +kernel) (by decide +kernel), gT_in 30 (by decide +kernel) (by decide +kernel), gT_in 297 (by decide +kernel) (by decide +kernel)⟩, by decide +kernel, by decide +kernel, by decide +kernel, by decide +kernel⟩
theorem kX1_92 : CalV RX1 92 RX1 yX1_comeIn cX1_comeIn 5 (some .int) 4 := ⟨⟨gT_in 298 (by decide +kernel) (by decide +kernel), gT_in 255 (by decide +kernel) (by decide +kernel), gT_in 256 (by decide +kernel) (by decide +kernel), gT_in 30 (by decide +kernel) (by decide +kernel), gT_in 257 (by decide +kernel) (by decide +kernel)⟩, by decide +kernel, by decide +kernel, by decide +kernel, by decide +kernel⟩
theorem kX1_95 : CalV RX1 95 RX2 yX2_releaseHeld cX2_releaseHeld 4 (some .int) 1 := ⟨⟨gT_in 299 (by decide +kernel) (by decide +kernel), gT_in 300 (by decide +kernel) (by decide +kernel), gT_in 301 (by decide +kernel) (by decide +kernel), gT_in 33 (by decide +kernel) (by decide +kernel), gT_in 302 (by decide +kernel) (by decide +kernel)⟩, by decide +kernel, by decide +kernel, by decide +kernel, by decide +kernel⟩
theorem kX1_99 : CalV RX1 99 RX2 yX2_forget cX2_forget 2 none 1 := ⟨⟨gT_in 303 (by decide +kernel) (by decide +kernel), gT_in 175 (by decide +kernel) (by decide +kernel), gT_in 176 (by decide +kernel) (by decide +kernel), gT_in 33 (by decide +kernel) (by decide +kernel), gT_in 177 (by decide +kernel) (by decide +kernel)⟩, by decide +kernel, by decide +kernel, by decide +kernel, by decide +kernel⟩
theorem kX1_103 : CalV RX1 103 RX2 yX2_know cX2_know 4 none 3 := ⟨⟨gT_in 304 (by decide +kernel) (by decide +kernel), gT_in 305 (by decide +kernel) (by decide +kernel), gT_in 306 (by decide +kernel) (by decide +kernel), gT_in 33 (by decide +kernel) (by decide +kernel), gT_in 307 (by decide +kernel) (by decide +kernel)⟩, by decide +kernel, by decide +kernel, by decide +kernel, by decide +kernel⟩
theorem kL_36 : CalV RL 36 RX3 yX3_tick cX3_tick 2 (some .int) 1 := ⟨⟨gT_in 308 (by decide +kernel) (by decide +kernel), gT_in 309 (by decide +kernel) (by decide +kernel), gT_in 310 (by decide +kernel) (by decide +kernel), gT_in 29 (by decide +kernel) (by decide +kernel), gT_in 311 (by decide +kernel) (by decide +kernel)⟩, by decide +kernel, by decide +kernel, by decide +kernel, by decide +kernel⟩
theorem kX3_56 : CalV RX3 56 RX1 yX1_passTicks cX1_passTicks 2 (some .int) 1 := ⟨⟨gT_in 312 (by decide +kernel) (by decide +kernel), gT_in 313 (by decide +kernel) (by decide +kernel), gT_in 314 (by decide +kernel) (by decide +kernel), gT_in 30 (by decide +kernel) (by decide +kernel), gT_in 315 (by decide +kernel) (by decide +kernel)⟩, by decide +kernel, by decide +kernel, by decide +kernel, by decide +kernel⟩
theorem kX1_112 : CalV RX1 112 RX2 yX2_endOld cX2_endOld 3 none 1 := ⟨⟨gT_in 316 (by decide +kernel) (by decide +kernel), gT_in 317 (by decide +kernel) (by decide +kernel), gT_in 318 (by decide +kernel) (by decide +kernel), gT_in 33 (by decide +kernel) (by decide +kernel), gT_in 319 (by decide +kernel) (by decide +kernel)⟩, by decide +kernel, by decide +kernel, by decide +kernel, by decide +kernel⟩
theorem kX2_38 : CalV RX2 38 RX2 yX2_isKnown cX2_isKnown 2 (some .boolean) 1 := ⟨⟨gT_in 320 (by decide +kernel) (by decide +kernel), gT_in 283 (by decide +kernel) (by decide +kernel), gT_in 284 (by decide +kernel) (by decide +kernel), gT_in 33 (by decide +kernel) (by decide +kernel), gT_in 285 (by decide +kernel) (by decide +kernel)⟩, by decide +kernel, by decide +kernel, by decide +kernel, by decide +kernel⟩
theorem kL_41 : CalV RL 41 RX3 yX3_drop cX3_drop 2 (some .int) 1 := ⟨⟨gT_in 321 (by decide +kernel) (by decide +kernel), gT_in 322 (by decide +kernel) (by decide +kernel), gT_in 323 (by decide +kernel) (by decide +kernel), gT_in 29 (by decide +kernel) (by decide +kernel), gT_in 324 (by decide +kernel) (by decide +kernel)⟩, by decide +kernel, by decide +kernel, by decide +kernel, by decide +kernel⟩
theorem kX3_60 : CalV RX3 60 RX1 yX1_endBindingsOf cX1_endBindingsOf 4 (some .int) 1 := ⟨⟨gT_in 325 (by decide +kernel) (by decide +kernel), gT_in 326 (by decide +kernel) (by decide +kernel), gT_in 327 (by decide +kernel) (by decide +kernel), gT_in 30 (by decide +kernel) (by decide +kernel), gT_in 328 (by decide +kernel) (by decide +kernel)⟩, by decide +kernel, by decide +kernel, by decide +kernel, by decide +kernel⟩
theorem kX1_154 : CalV RX1 154 RX0 yX0_hostOf cX0_hostOf 2 (some .int) 1 := ⟨⟨gT_in 329 (by decide +kernel) (by decide +kernel), gT_in 231 (by decide +kernel) (by decide +kernel), gT_in 232 (by decide +kernel) (by decide +kernel), gT_in 31 (by decide +kernel) (by decide +kernel), gT_in 233 (by decide +kernel) (by decide +kernel)⟩, by decide +kernel, by decide +kernel, by decide +kernel, by decide +kernel⟩
theorem kL_45 : CalV RL 45 RX3 yX3_of cX3_of 3 (some .int) 2 := ⟨⟨gT_in 330 (by decide +kernel) (by decide +kernel), gT_in 331 (by decide +kernel) (by decide +kernel), gT_in 332 (by decide +kernel) (by decide +kernel), gT_in 29 (by decide +kernel) (by decide +kernel), gT_in 333 (by decide +kernel) (by decide +kernel)⟩, by decide +kernel, by decide +kernel, by decide +kernel, by decide +kernel⟩
theorem kX3_67 : CalV RX3 67 RX0 yX0_isLent cX0_isLent 2 (some .boolean) 1 := ⟨⟨gT_in 334 (by decide +kernel) (by decide +kernel), gT_in 183 (by decide +kernel) (by decide +kernel), gT_in 184 (by decide +kernel) (by decide +kernel), gT_in 31 (by decide +kernel) (by decide +kernel), gT_in 185 (by decide +kernel) (by decide +kernel)⟩, by decide +kernel, by decide +kernel, by decide +kernel, by decide +kernel⟩
theorem kX3_73 : CalV RX3 73 RX1 yX1_tellOfBinding cX1_tellOfBinding 3 (some .int) 2 := ⟨⟨gT_in 335 (by decide +kernel) (by decide +kernel), gT_in 336 (by decide +kernel) (by decide +kernel), gT_in 337 (by decide +kernel) (by decide +kernel), gT_in 30 (by decide +kernel) (by decide +kernel), gT_in 338 (by decide +kernel) (by decide +kernel)⟩, by decide +kernel, by decide +kernel, by decide +kernel, by decide +kernel⟩
theorem kX1_130 : CalV RX1 130 RX0 yX0_countSent cX0_countSent 4 (some .int) 1 := ⟨⟨gT_in 339 (by decide +kernel) (by decide +kernel), gT_in 340 (by decide +kernel) (by decide +kernel), gT_in 341 (by decide +kernel) (by decide +kernel), gT_in 31 (by decide +kernel) (by decide +kernel), gT_in 342 (by decide +kernel) (by decide +kernel)⟩, by decide +kernel, by decide +kernel, by decide +kernel, by decide +kernel⟩
theorem kX0_44 : CalS RX0 44 yJ6_bitCount_0f7a4 cJ6_bitCount_0f7a4 1 (some .int) 1 := ⟨⟨gT_in 343 (by decide +kernel) (by decide +kernel), gT_in 344 (by decide +kernel) (by decide +kernel), gT_in 35 (by decide +kernel) (by decide +kernel), gT_in 345 (by decide +kernel) (by decide +kernel)⟩, by decide +kernel, by decide +kernel, by decide +kernel⟩
theorem kL_49 : CalV RL 49 RX3 yX3_sent cX3_sent 4 (some .int) 3 := ⟨⟨gT_in 349 (by decide +kernel) (by decide +kernel), gT_in 350 (by decide +kernel) (by decide +kernel), gT_in 351 (by decide +kernel) (by decide +kernel), gT_in 29 (by decide +kernel) (by decide +kernel), gT_in 352 (by decide +kernel) (by decide +kernel)⟩, by decide +kernel, by decide +kernel, by decide +kernel, by decide +kernel⟩
theorem kX3_76 : CalV RX3 76 RX0 yX0_isSent cX0_isSent 4 (some .boolean) 3 := ⟨⟨gT_in 353 (by decide +kernel) (by decide +kernel), gT_in 267 (by decide +kernel) (by decide +kernel), gT_in 268 (by decide +kernel) (by decide +kernel), gT_in 31 (by decide +kernel) (by decide +kernel), gT_in 269 (by decide +kernel) (by decide +kernel)⟩, by decide +kernel, by decide +kernel, by decide +kernel, by decide +kernel⟩
theorem kL_54 : CalV RL 54 RX3 yX3_find cX3_find 5 (some .int) 4 := ⟨⟨gT_in 354 (by decide +kernel) (by decide +kernel), gT_in 355 (by decide +kernel) (by decide +kernel), gT_in 356 (by decide +kernel) (by decide +kernel), gT_in 29 (by decide +kernel) (by decide +kernel), gT_in 357 (by decide +kernel) (by decide +kernel)⟩, by decide +kernel, by decide +kernel, by decide +kernel, by decide +kernel⟩
theorem kX3_80 : CalV RX3 80 RX0 yX0_seek cX0_seek 5 (some .int) 3 := ⟨⟨gT_in 358 (by decide +kernel) (by decide +kernel), gT_in 206 (by decide +kernel) (by decide +kernel), gT_in 207 (by decide +kernel) (by decide +kernel), gT_in 31 (by decide +kernel) (by decide +kernel), gT_in 208 (by decide +kernel) (by decide +kernel)⟩, by decide +kernel, by decide +kernel, by decide +kernel, by decide +kernel⟩
theorem kL_58 : CalV RL 58 RX3 yX3_next cX3_next 3 (some .int) 2 := ⟨⟨gT_in 359 (by decide +kernel) (by decide +kernel), gT_in 360 (by decide +kernel) (by decide +kernel), gT_in 361 (by decide +kernel) (by decide +kernel), gT_in 29 (by decide +kernel) (by decide +kernel), gT_in 362 (by decide +kernel) (by decide +kernel)⟩, by decide +kernel, by decide +kernel, by decide +kernel, by decide +kernel⟩
theorem kX3_84 : CalV RX3 84 RX1 yX1_choose cX1_choose 6 (some .int) 2 := ⟨⟨gT_in 363 (by decide +kernel) (by decide +kernel), gT_in 218 (by decide +kernel) (by decide +kernel), gT_in 219 (by decide +kernel) (by decide +kernel), gT_in 30 (by decide +kernel) (by decide +kernel), gT_in 220 (by decide +kernel) (by decide +kernel)⟩, by decide +kernel, by decide +kernel, by decide +kernel, by decide +kernel⟩
theorem kL_62 : CalV RL 62 RX3 yX3_why cX3_why 4 (some .int) 3 := ⟨⟨gT_in 364 (by decide +kernel) (by decide +kernel), gT_in 365 (by decide +kernel) (by decide +kernel), gT_in 366 (by decide +kernel) (by decide +kernel), gT_in 29 (by decide +kernel) (by decide +kernel), gT_in 367 (by decide +kernel) (by decide +kernel)⟩, by decide +kernel, by decide +kernel, by decide +kernel, by decide +kernel⟩
theorem kX3_87 : CalV RX3 87 RX1 yX1_reasonAgainst cX1_reasonAgainst 4 (some .int) 3 := ⟨⟨gT_in 368 (by decide +kernel) (by decide +kernel), gT_in 259 (by decide +kernel) (by decide +kernel), gT_in 260 (by decide +kernel) (by decide +kernel), gT_in 30 (by decide +kernel) (by decide +kernel), gT_in 261 (by decide +kernel) (by decide +kernel)⟩, by decide +kernel, by decide +kernel, by decide +kernel, by decide +kernel⟩
theorem kL_66 : CalV RL 66 RX3 yX3_block cX3_block 2 (some .int) 1 := ⟨⟨gT_in 369 (by decide +kernel) (by decide +kernel), gT_in 370 (by decide +kernel) (by decide +kernel), gT_in 371 (by decide +kernel) (by decide +kernel), gT_in 29 (by decide +kernel) (by decide +kernel), gT_in 372 (by decide +kernel) (by decide +kernel)⟩, by decide +kernel, by decide +kernel, by decide +kernel, by decide +kernel⟩
theorem kX3_90 : CalV RX3 90 RX0 yX0_holderOf cX0_holderOf 3 (some .int) 1 := ⟨⟨gT_in 373 (by decide +kernel) (by decide +kernel), gT_in 226 (by decide +kernel) (by decide +kernel), gT_in 227 (by decide +kernel) (by decide +kernel), gT_in 31 (by decide +kernel) (by decide +kernel), gT_in 228 (by decide +kernel) (by decide +kernel)⟩, by decide +kernel, by decide +kernel, by decide +kernel, by decide +kernel⟩
theorem kL_70 : CalV RL 70 RX3 yX3_host cX3_host 3 (some .int) 2 := ⟨⟨gT_in 374 (by decide +kernel) (by decide +kernel), gT_in 375 (by decide +kernel) (by decide +kernel), gT_in 376 (by decide +kernel) (by decide +kernel), gT_in 29 (by decide +kernel) (by decide +kernel), gT_in 377 (by decide +kernel) (by decide +kernel)⟩, by decide +kernel, by decide +kernel, by decide +kernel, by decide +kernel⟩
theorem kX3_93 : CalV RX3 93 RX1 yX1_tellOfHost cX1_tellOfHost 3 (some .int) 2 := ⟨⟨gT_in 378 (by decide +kernel) (by decide +kernel), gT_in 379 (by decide +kernel) (by decide +kernel), gT_in 380 (by decide +kernel) (by decide +kernel), gT_in 30 (by decide +kernel) (by decide +kernel), gT_in 381 (by decide +kernel) (by decide +kernel)⟩, by decide +kernel, by decide +kernel, by decide +kernel, by decide +kernel⟩
theorem kX1_139 : CalV RX1 139 RX0 yX0_countOfHost cX0_countOfHost 4 (some .int) 1 := ⟨⟨gT_in 382 (by decide +kernel) (by decide +kernel), gT_in 383 (by decide +kernel) (by decide +kernel), gT_in 384 (by decide +kernel) (by decide +kernel), gT_in 31 (by decide +kernel) (by decide +kernel), gT_in 385 (by decide +kernel) (by decide +kernel)⟩, by decide +kernel, by decide +kernel, by decide +kernel, by decide +kernel⟩
theorem kX1_142 : CalV RX1 142 RX0 yX0_blocksOf cX0_blocksOf 4 (some .int) 1 := ⟨⟨gT_in 386 (by decide +kernel) (by decide +kernel), gT_in 387 (by decide +kernel) (by decide +kernel), gT_in 388 (by decide +kernel) (by decide +kernel), gT_in 31 (by decide +kernel) (by decide +kernel), gT_in 389 (by decide +kernel) (by decide +kernel)⟩, by decide +kernel, by decide +kernel, by decide +kernel, by decide +kernel⟩
theorem kX0_53 : CalV RX0 53 RX0 yX0_holderOf cX0_holderOf 3 (some .int) 1 := ⟨⟨gT_in 390 (by decide +kernel) (by decide +kernel), gT_in 226 (by decide +kernel) (by decide +kernel), gT_in 227 (by decide +kernel) (by decide +kernel), gT_in 31 (by decide +kernel) (by decide +kernel), gT_in 228 (by decide +kernel) (by decide +kernel)⟩, by decide +kernel, by decide +kernel, by decide +kernel, by decide +kernel⟩
theorem kX1_145 : CalV RX1 145 RX1 yX1_countFitFor cX1_countFitFor 6 (some .int) 2 := ⟨⟨gT_in 391 (by decide +kernel) (by decide +kernel), gT_in 392 (by decide +kernel) (by decide +kernel), gT_in 393 (by decide +kernel) (by decide +kernel), gT_in 30 (by decide +kernel) (by decide +kernel), gT_in 394 (by decide +kernel) (by decide +kernel)⟩, by decide +kernel, by decide +kernel, by decide +kernel, by decide +kernel⟩
theorem kL_74 : CalV RL 74 RX3 yX3_soon cX3_soon 1 (some .int) 0 := ⟨⟨gT_in 395 (by decide +kernel) (by decide +kernel), gT_in 396 (by decide +kernel) (by decide +kernel), gT_in 397 (by decide +kernel) (by decide +kernel), gT_in 29 (by decide +kernel) (by decide +kernel), gT_in 398 (by decide +kernel) (by decide +kernel)⟩, by decide +kernel, by decide +kernel, by decide +kernel, by decide +kernel⟩
theorem kX3_96 : CalV RX3 96 RX1 yX1_leastTicksLeft cX1_leastTicksLeft 3 (some .int) 0 := ⟨⟨gT_in 399 (by decide +kernel) (by decide +kernel), gT_in 400 (by decide +kernel) (by decide +kernel), gT_in 401 (by decide +kernel) (by decide +kernel), gT_in 30 (by decide +kernel) (by decide +kernel), gT_in 402 (by decide +kernel) (by decide +kernel)⟩, by decide +kernel, by decide +kernel, by decide +kernel, by decide +kernel⟩
theorem kL_79 : CalV RL 79 RX3 yX3_image cX3_image 2 (some .int) 1 := ⟨⟨gT_in 403 (by decide +kernel) (by decide +kernel), gT_in 404 (by decide +kernel) (by decide +kernel), gT_in 405 (by decide +kernel) (by decide +kernel), gT_in 29 (by decide +kernel) (by decide +kernel), gT_in 406 (by decide +kernel) (by decide +kernel)⟩, by decide +kernel, by decide +kernel, by decide +kernel, by decide +kernel⟩
theorem kX3_100 : CalV RX3 100 RX1 yX1_becomeLike cX1_becomeLike 2 none 1 := ⟨⟨gT_in 407 (by decide +kernel) (by decide +kernel), gT_in 408 (by decide +kernel) (by decide +kernel), gT_in 409 (by decide +kernel) (by decide +kernel), gT_in 30 (by decide +kernel) (by decide +kernel), gT_in 410 (by decide +kernel) (by decide +kernel)⟩, by decide +kernel, by decide +kernel, by decide +kernel, by decide +kernel⟩
theorem kX1_169 : CalV RX1 169 RX0 yX0_copyBindings cX0_copyBindings 2 none 1 := ⟨⟨gT_in 414 (by decide +kernel) (by decide +kernel), gT_in 415 (by decide +kernel) (by decide +kernel), gT_in 416 (by decide +kernel) (by decide +kernel), gT_in 31 (by decide +kernel) (by decide +kernel), gT_in 417 (by decide +kernel) (by decide +kernel)⟩, by decide +kernel, by decide +kernel, by decide +kernel, by decide +kernel⟩
theorem kX1_173 : CalV RX1 173 RX2 yX2_copyPackets cX2_copyPackets 2 none 1 := ⟨⟨gT_in 419 (by decide +kernel) (by decide +kernel), gT_in 420 (by decide +kernel) (by decide +kernel), gT_in 421 (by decide +kernel) (by decide +kernel), gT_in 33 (by decide +kernel) (by decide +kernel), gT_in 422 (by decide +kernel) (by decide +kernel)⟩, by decide +kernel, by decide +kernel, by decide +kernel, by decide +kernel⟩
theorem kL_83 : CalV RL 83 RX3 yX3_restore cX3_restore 2 (some .int) 1 := ⟨⟨gT_in 424 (by decide +kernel) (by decide +kernel), gT_in 425 (by decide +kernel) (by decide +kernel), gT_in 426 (by decide +kernel) (by decide +kernel), gT_in 29 (by decide +kernel) (by decide +kernel), gT_in 427 (by decide +kernel) (by decide +kernel)⟩, by decide +kernel, by decide +kernel, by decide +kernel, by decide +kernel⟩
theorem kL_87 : CalV RL 87 RX3 yX3_count cX3_count 2 (some .int) 1 := ⟨⟨gT_in 428 (by decide +kernel) (by decide +kernel), gT_in 429 (by decide +kernel) (by decide +kernel), gT_in 430 (by decide +kernel) (by decide +kernel), gT_in 29 (by decide +kernel) (by decide +kernel), gT_in 431 (by decide +kernel) (by decide +kernel)⟩, by decide +kernel, by decide +kernel, by decide +kernel, by decide +kernel⟩
theorem kX3_104 : CalV RX3 104 RX0 yX0_countAll cX0_countAll 3 (some .int) 0 := ⟨⟨gT_in 432 (by decide +kernel) (by decide +kernel), gT_in 433 (by decide +kernel) (by decide +kernel), gT_in 434 (by decide +kernel) (by decide +kernel), gT_in 31 (by decide +kernel) (by decide +kernel), gT_in 435 (by decide +kernel) (by decide +kernel)⟩, by decide +kernel, by decide +kernel, by decide +kernel, by decide +kernel⟩
theorem kX3_111 : CalV RX3 111 RX0 yX0_countFreeBlocks cX0_countFreeBlocks 1 (some .int) 0 := ⟨⟨gT_in 436 (by decide +kernel) (by decide +kernel), gT_in 437 (by decide +kernel) (by decide +kernel), gT_in 438 (by decide +kernel) (by decide +kernel), gT_in 31 (by decide +kernel) (by decide +kernel), gT_in 439 (by decide +kernel) (by decide +kernel)⟩, by decide +kernel, by decide +kernel, by decide +kernel, by decide +kernel⟩
theorem kX0_56 : CalV RX0 56 RX0 yX0_blocksOf cX0_blocksOf 4 (some .int) 1 := ⟨⟨gT_in 440 (by decide +kernel) (by decide +kernel), gT_in 387 (by decide +kernel) (by decide +kernel), gT_in 388 (by decide +kernel) (by decide +kernel), gT_in 31 (by decide +kernel) (by decide +kernel), gT_in 389 (by decide +kernel) (by decide +kernel)⟩, by decide +kernel, by decide +kernel, by decide +kernel, by decide +kernel⟩
theorem kX3_118 : CalV RX3 118 RX2 yX2_countHeld cX2_countHeld 3 (some .int) 0 := ⟨⟨gT_in 441 (by decide +kernel) (by decide +kernel), gT_in 442 (by decide +kernel) (by decide +kernel), gT_in 443 (by decide +kernel) (by decide +kernel), gT_in 33 (by decide +kernel) (by decide +kernel), gT_in 444 (by decide +kernel) (by decide +kernel)⟩, by decide +kernel, by decide +kernel, by decide +kernel, by decide +kernel⟩
theorem kX3_123 : CalV RX3 123 RX2 yX2_countKnown cX2_countKnown 3 (some .int) 0 := ⟨⟨gT_in 445 (by decide +kernel) (by decide +kernel), gT_in 446 (by decide +kernel) (by decide +kernel), gT_in 447 (by decide +kernel) (by decide +kernel), gT_in 33 (by decide +kernel) (by decide +kernel), gT_in 448 (by decide +kernel) (by decide +kernel)⟩, by decide +kernel, by decide +kernel, by decide +kernel, by decide +kernel⟩
theorem kX3_126 : CalV RX3 126 RX3 yX3_ruleAt cX3_ruleAt 2 (some .int) 1 := ⟨⟨gT_in 449 (by decide +kernel) (by decide +kernel), gT_in 451 (by decide +kernel) (by decide +kernel), gT_in 0 (by decide +kernel) (by decide +kernel), gT_in 29 (by decide +kernel) (by decide +kernel), gT_in 452 (by decide +kernel) (by decide +kernel)⟩, by decide +kernel, by decide +kernel, by decide +kernel, by decide +kernel⟩
theorem kL_17 : CalV RL 17 RX4 yX4_rule cX4_rule 5 (some .int) 2 := ⟨⟨gT_in 469 (by decide +kernel) (by decide +kernel), gT_in 470 (by decide +kernel) (by decide +kernel), gT_in 471 (by decide +kernel) (by decide +kernel), gT_in 34 (by decide +kernel) (by decide +kernel), gT_in 472 (by decide +kernel) (by decide +kernel)⟩, by decide +kernel, by decide +kernel, by decide +kernel, by decide +kernel⟩
theorem kX4_20 : CalS RX4 20 yX4_isFrom cX4_isFrom 3 (some .boolean) 3 := ⟨⟨gT_in 473 (by decide +kernel) (by decide +kernel), gT_in 474 (by decide +kernel) (by decide +kernel), gT_in 34 (by decide +kernel) (by decide +kernel), gT_in 475 (by decide +kernel) (by decide +kernel)⟩, by decide +kernel, by decide +kernel, by decide +kernel⟩
theorem kX4_36 : CalS RX4 36 yX4_least cX4_least 1 (some .int) 1 := ⟨⟨gT_in 476 (by decide +kernel) (by decide +kernel), gT_in 477 (by decide +kernel) (by decide +kernel), gT_in 34 (by decide +kernel) (by decide +kernel), gT_in 478 (by decide +kernel) (by decide +kernel)⟩, by decide +kernel, by decide +kernel, by decide +kernel⟩
theorem kX4_39 : CalS RX4 39 yX4_most cX4_most 1 (some .int) 1 := ⟨⟨gT_in 479 (by decide +kernel) (by decide +kernel), gT_in 480 (by decide +kernel) (by decide +kernel), gT_in 34 (by decide +kernel) (by decide +kernel), gT_in 481 (by decide +kernel) (by decide +kernel)⟩, by decide +kernel, by decide +kernel, by decide +kernel⟩
theorem kX4_24 : CalV RX4 24 RX4 yX4_isLent cX4_isLent 2 (some .boolean) 1 := ⟨⟨gT_in 482 (by decide +kernel) (by decide +kernel), gT_in 484 (by decide +kernel) (by decide +kernel), gT_in 1 (by decide +kernel) (by decide +kernel), gT_in 34 (by decide +kernel) (by decide +kernel), gT_in 485 (by decide +kernel) (by decide +kernel)⟩, by decide +kernel, by decide +kernel, by decide +kernel, by decide +kernel⟩
theorem kX4_32 : CalV RX4 32 RX4 yX4_end cX4_end 3 none 1 := ⟨⟨gT_in 486 (by decide +kernel) (by decide +kernel), gT_in 488 (by decide +kernel) (by decide +kernel), gT_in 2 (by decide +kernel) (by decide +kernel), gT_in 34 (by decide +kernel) (by decide +kernel), gT_in 489 (by decide +kernel) (by decide +kernel)⟩, by decide +kernel, by decide +kernel, by decide +kernel, by decide +kernel⟩
theorem kX4_42 : CalV RX4 42 RX4 yX4_lapse cX4_lapse 3 (some .int) 0 := ⟨⟨gT_in 490 (by decide +kernel) (by decide +kernel), gT_in 492 (by decide +kernel) (by decide +kernel), gT_in 3 (by decide +kernel) (by decide +kernel), gT_in 34 (by decide +kernel) (by decide +kernel), gT_in 493 (by decide +kernel) (by decide +kernel)⟩, by decide +kernel, by decide +kernel, by decide +kernel, by decide +kernel⟩
theorem kX4_28 : CalV RX4 28 RX4 yX4_endOf cX4_endOf 2 (some .int) 1 := ⟨⟨gT_in 494 (by decide +kernel) (by decide +kernel), gT_in 496 (by decide +kernel) (by decide +kernel), gT_in 4 (by decide +kernel) (by decide +kernel), gT_in 34 (by decide +kernel) (by decide +kernel), gT_in 497 (by decide +kernel) (by decide +kernel)⟩, by decide +kernel, by decide +kernel, by decide +kernel, by decide +kernel⟩
theorem kL_22 : CalV RL 22 RX4 yX4_out cX4_out 6 (some .int) 5 := ⟨⟨gT_in 498 (by decide +kernel) (by decide +kernel), gT_in 499 (by decide +kernel) (by decide +kernel), gT_in 500 (by decide +kernel) (by decide +kernel), gT_in 34 (by decide +kernel) (by decide +kernel), gT_in 501 (by decide +kernel) (by decide +kernel)⟩, by decide +kernel, by decide +kernel, by decide +kernel, by decide +kernel⟩
theorem kX4_68 : CalS RX4 68 yX4_isHost cX4_isHost 1 (some .boolean) 1 := ⟨⟨gT_in 502 (by decide +kernel) (by decide +kernel), gT_in 503 (by decide +kernel) (by decide +kernel), gT_in 34 (by decide +kernel) (by decide +kernel), gT_in 504 (by decide +kernel) (by decide +kernel)⟩, by decide +kernel, by decide +kernel, by decide +kernel⟩
theorem kX4_71 : CalS RX4 71 yX4_isPort cX4_isPort 1 (some .boolean) 1 := ⟨⟨gT_in 505 (by decide +kernel) (by decide +kernel), gT_in 506 (by decide +kernel) (by decide +kernel), gT_in 34 (by decide +kernel) (by decide +kernel), gT_in 507 (by decide +kernel) (by decide +kernel)⟩, by decide +kernel, by decide +kernel, by decide +kernel⟩
theorem kX4_74 : CalS RX4 74 yX4_isRemote cX4_isRemote 2 (some .boolean) 2 := ⟨⟨gT_in 508 (by decide +kernel) (by decide +kernel), gT_in 509 (by decide +kernel) (by decide +kernel), gT_in 34 (by decide +kernel) (by decide +kernel), gT_in 510 (by decide +kernel) (by decide +kernel)⟩, by decide +kernel, by decide +kernel, by decide +kernel⟩
theorem kX4_77 : CalS RX4 77 yX4_isFlag cX4_isFlag 1 (some .boolean) 1 := ⟨⟨gT_in 511 (by decide +kernel) (by decide +kernel), gT_in 512 (by decide +kernel) (by decide +kernel), gT_in 34 (by decide +kernel) (by decide +kernel), gT_in 513 (by decide +kernel) (by decide +kernel)⟩, by decide +kernel, by decide +kernel, by decide +kernel⟩
theorem kX4_80 : CalV RX4 80 RX4 yX4_send cX4_send 7 (some .int) 5 := ⟨⟨gT_in 514 (by decide +kernel) (by decide +kernel), gT_in 516 (by decide +kernel) (by decide +kernel), gT_in 5 (by decide +kernel) (by decide +kernel), gT_in 34 (by decide +kernel) (by decide +kernel), gT_in 517 (by decide +kernel) (by decide +kernel)⟩, by decide +kernel, by decide +kernel, by decide +kernel, by decide +kernel⟩
theorem kX4_57 : CalV RX4 57 RX4 yX4_bindingOf cX4_bindingOf 8 (some .int) 4 := ⟨⟨gT_in 518 (by decide +kernel) (by decide +kernel), gT_in 520 (by decide +kernel) (by decide +kernel), gT_in 6 (by decide +kernel) (by decide +kernel), gT_in 34 (by decide +kernel) (by decide +kernel), gT_in 521 (by decide +kernel) (by decide +kernel)⟩, by decide +kernel, by decide +kernel, by decide +kernel, by decide +kernel⟩
theorem kX4_61 : CalV RX4 61 RX4 yX4_chosen cX4_chosen 5 (some .int) 2 := ⟨⟨gT_in 522 (by decide +kernel) (by decide +kernel), gT_in 524 (by decide +kernel) (by decide +kernel), gT_in 7 (by decide +kernel) (by decide +kernel), gT_in 34 (by decide +kernel) (by decide +kernel), gT_in 525 (by decide +kernel) (by decide +kernel)⟩, by decide +kernel, by decide +kernel, by decide +kernel, by decide +kernel⟩
theorem kX4_46 : CalV RX4 46 RX4 yX4_blockOf cX4_blockOf 4 (some .int) 1 := ⟨⟨gT_in 526 (by decide +kernel) (by decide +kernel), gT_in 528 (by decide +kernel) (by decide +kernel), gT_in 8 (by decide +kernel) (by decide +kernel), gT_in 34 (by decide +kernel) (by decide +kernel), gT_in 529 (by decide +kernel) (by decide +kernel)⟩, by decide +kernel, by decide +kernel, by decide +kernel, by decide +kernel⟩
theorem kX4_49 : CalV RX4 49 RX4 yX4_fits cX4_fits 3 (some .boolean) 2 := ⟨⟨gT_in 530 (by decide +kernel) (by decide +kernel), gT_in 532 (by decide +kernel) (by decide +kernel), gT_in 9 (by decide +kernel) (by decide +kernel), gT_in 34 (by decide +kernel) (by decide +kernel), gT_in 533 (by decide +kernel) (by decide +kernel)⟩, by decide +kernel, by decide +kernel, by decide +kernel, by decide +kernel⟩
theorem kX4_53 : CalV RX4 53 RX4 yX4_leastOf cX4_leastOf 4 (some .int) 2 := ⟨⟨gT_in 534 (by decide +kernel) (by decide +kernel), gT_in 536 (by decide +kernel) (by decide +kernel), gT_in 10 (by decide +kernel) (by decide +kernel), gT_in 34 (by decide +kernel) (by decide +kernel), gT_in 537 (by decide +kernel) (by decide +kernel)⟩, by decide +kernel, by decide +kernel, by decide +kernel, by decide +kernel⟩
theorem kX4_64 : CalV RX4 64 RX4 yX4_make cX4_make 7 none 5 := ⟨⟨gT_in 538 (by decide +kernel) (by decide +kernel), gT_in 540 (by decide +kernel) (by decide +kernel), gT_in 11 (by decide +kernel) (by decide +kernel), gT_in 34 (by decide +kernel) (by decide +kernel), gT_in 541 (by decide +kernel) (by decide +kernel)⟩, by decide +kernel, by decide +kernel, by decide +kernel, by decide +kernel⟩
theorem kL_27 : CalV RL 27 RX4 yX4_in cX4_in 5 (some .int) 4 := ⟨⟨gT_in 542 (by decide +kernel) (by decide +kernel), gT_in 543 (by decide +kernel) (by decide +kernel), gT_in 544 (by decide +kernel) (by decide +kernel), gT_in 34 (by decide +kernel) (by decide +kernel), gT_in 545 (by decide +kernel) (by decide +kernel)⟩, by decide +kernel, by decide +kernel, by decide +kernel, by decide +kernel⟩
theorem kX4_91 : CalS RX4 91 yX4_isOuter cX4_isOuter 1 (some .boolean) 1 := ⟨⟨gT_in 546 (by decide +kernel) (by decide +kernel), gT_in 547 (by decide +kernel) (by decide +kernel), gT_in 34 (by decide +kernel) (by decide +kernel), gT_in 548 (by decide +kernel) (by decide +kernel)⟩, by decide +kernel, by decide +kernel, by decide +kernel⟩
theorem kX4_94 : CalV RX4 94 RX4 yX4_receive cX4_receive 5 (some .int) 4 := ⟨⟨gT_in 549 (by decide +kernel) (by decide +kernel), gT_in 551 (by decide +kernel) (by decide +kernel), gT_in 12 (by decide +kernel) (by decide +kernel), gT_in 34 (by decide +kernel) (by decide +kernel), gT_in 552 (by decide +kernel) (by decide +kernel)⟩, by decide +kernel, by decide +kernel, by decide +kernel, by decide +kernel⟩
theorem kX4_84 : CalV RX4 84 RX4 yX4_whyNot cX4_whyNot 5 (some .int) 3 := ⟨⟨gT_in 553 (by decide +kernel) (by decide +kernel), gT_in 555 (by decide +kernel) (by decide +kernel), gT_in 13 (by decide +kernel) (by decide +kernel), gT_in 34 (by decide +kernel) (by decide +kernel), gT_in 556 (by decide +kernel) (by decide +kernel)⟩, by decide +kernel, by decide +kernel, by decide +kernel, by decide +kernel⟩
theorem kX4_88 : CalV RX4 88 RX4 yX4_insideOf cX4_insideOf 2 (some .int) 1 := ⟨⟨gT_in 557 (by decide +kernel) (by decide +kernel), gT_in 559 (by decide +kernel) (by decide +kernel), gT_in 14 (by decide +kernel) (by decide +kernel), gT_in 34 (by decide +kernel) (by decide +kernel), gT_in 560 (by decide +kernel) (by decide +kernel)⟩, by decide +kernel, by decide +kernel, by decide +kernel, by decide +kernel⟩
theorem kL_31 : CalV RL 31 RX4 yX4_turn cX4_turn 6 (some .int) 4 := ⟨⟨gT_in 561 (by decide +kernel) (by decide +kernel), gT_in 562 (by decide +kernel) (by decide +kernel), gT_in 563 (by decide +kernel) (by decide +kernel), gT_in 34 (by decide +kernel) (by decide +kernel), gT_in 564 (by decide +kernel) (by decide +kernel)⟩, by decide +kernel, by decide +kernel, by decide +kernel, by decide +kernel⟩
theorem kL_35 : CalV RL 35 RX4 yX4_part cX4_part 7 (some .int) 5 := ⟨⟨gT_in 565 (by decide +kernel) (by decide +kernel), gT_in 566 (by decide +kernel) (by decide +kernel), gT_in 567 (by decide +kernel) (by decide +kernel), gT_in 34 (by decide +kernel) (by decide +kernel), gT_in 568 (by decide +kernel) (by decide +kernel)⟩, by decide +kernel, by decide +kernel, by decide +kernel, by decide +kernel⟩
theorem kX4_106 : CalV RX4 106 RX4 yX4_isKnown cX4_isKnown 2 (some .boolean) 1 := ⟨⟨gT_in 569 (by decide +kernel) (by decide +kernel), gT_in 571 (by decide +kernel) (by decide +kernel), gT_in 15 (by decide +kernel) (by decide +kernel), gT_in 34 (by decide +kernel) (by decide +kernel), gT_in 572 (by decide +kernel) (by decide +kernel)⟩, by decide +kernel, by decide +kernel, by decide +kernel, by decide +kernel⟩
theorem kX4_109 : CalV RX4 109 RX4 yX4_hold cX4_hold 3 (some .int) 2 := ⟨⟨gT_in 573 (by decide +kernel) (by decide +kernel), gT_in 575 (by decide +kernel) (by decide +kernel), gT_in 16 (by decide +kernel) (by decide +kernel), gT_in 34 (by decide +kernel) (by decide +kernel), gT_in 576 (by decide +kernel) (by decide +kernel)⟩, by decide +kernel, by decide +kernel, by decide +kernel, by decide +kernel⟩
theorem kX4_97 : CalV RX4 97 RX4 yX4_isHeld cX4_isHeld 3 (some .boolean) 2 := ⟨⟨gT_in 577 (by decide +kernel) (by decide +kernel), gT_in 579 (by decide +kernel) (by decide +kernel), gT_in 17 (by decide +kernel) (by decide +kernel), gT_in 34 (by decide +kernel) (by decide +kernel), gT_in 580 (by decide +kernel) (by decide +kernel)⟩, by decide +kernel, by decide +kernel, by decide +kernel, by decide +kernel⟩
theorem kX4_103 : CalV RX4 103 RX4 yX4_heldMany cX4_heldMany 3 (some .int) 0 := ⟨⟨gT_in 581 (by decide +kernel) (by decide +kernel), gT_in 583 (by decide +kernel) (by decide +kernel), gT_in 18 (by decide +kernel) (by decide +kernel), gT_in 34 (by decide +kernel) (by decide +kernel), gT_in 584 (by decide +kernel) (by decide +kernel)⟩, by decide +kernel, by decide +kernel, by decide +kernel, by decide +kernel⟩
theorem kX4_112 : CalV RX4 112 RX4 yX4_first cX4_first 6 (some .int) 4 := ⟨⟨gT_in 585 (by decide +kernel) (by decide +kernel), gT_in 587 (by decide +kernel) (by decide +kernel), gT_in 19 (by decide +kernel) (by decide +kernel), gT_in 34 (by decide +kernel) (by decide +kernel), gT_in 588 (by decide +kernel) (by decide +kernel)⟩, by decide +kernel, by decide +kernel, by decide +kernel, by decide +kernel⟩
theorem kX4_100 : CalV RX4 100 RX4 yX4_letGo cX4_letGo 4 (some .int) 1 := ⟨⟨gT_in 589 (by decide +kernel) (by decide +kernel), gT_in 591 (by decide +kernel) (by decide +kernel), gT_in 20 (by decide +kernel) (by decide +kernel), gT_in 34 (by decide +kernel) (by decide +kernel), gT_in 592 (by decide +kernel) (by decide +kernel)⟩, by decide +kernel, by decide +kernel, by decide +kernel, by decide +kernel⟩
theorem kL_40 : CalV RL 40 RX4 yX4_tick cX4_tick 4 (some .int) 1 := ⟨⟨gT_in 593 (by decide +kernel) (by decide +kernel), gT_in 594 (by decide +kernel) (by decide +kernel), gT_in 595 (by decide +kernel) (by decide +kernel), gT_in 34 (by decide +kernel) (by decide +kernel), gT_in 596 (by decide +kernel) (by decide +kernel)⟩, by decide +kernel, by decide +kernel, by decide +kernel, by decide +kernel⟩
theorem kL_44 : CalV RL 44 RX4 yX4_drop cX4_drop 4 (some .int) 1 := ⟨⟨gT_in 597 (by decide +kernel) (by decide +kernel), gT_in 598 (by decide +kernel) (by decide +kernel), gT_in 599 (by decide +kernel) (by decide +kernel), gT_in 34 (by decide +kernel) (by decide +kernel), gT_in 600 (by decide +kernel) (by decide +kernel)⟩, by decide +kernel, by decide +kernel, by decide +kernel, by decide +kernel⟩
theorem kL_48 : CalV RL 48 RX4 yX4_of cX4_of 3 (some .int) 2 := ⟨⟨gT_in 601 (by decide +kernel) (by decide +kernel), gT_in 602 (by decide +kernel) (by decide +kernel), gT_in 603 (by decide +kernel) (by decide +kernel), gT_in 34 (by decide +kernel) (by decide +kernel), gT_in 604 (by decide +kernel) (by decide +kernel)⟩, by decide +kernel, by decide +kernel, by decide +kernel, by decide +kernel⟩
theorem kX4_118 : CalV RX4 118 RX4 yX4_toldOf cX4_toldOf 3 (some .int) 2 := ⟨⟨gT_in 605 (by decide +kernel) (by decide +kernel), gT_in 607 (by decide +kernel) (by decide +kernel), gT_in 21 (by decide +kernel) (by decide +kernel), gT_in 34 (by decide +kernel) (by decide +kernel), gT_in 608 (by decide +kernel) (by decide +kernel)⟩, by decide +kernel, by decide +kernel, by decide +kernel, by decide +kernel⟩
theorem kX4_115 : CalV RX4 115 RX4 yX4_sentMany cX4_sentMany 5 (some .int) 1 := ⟨⟨gT_in 609 (by decide +kernel) (by decide +kernel), gT_in 611 (by decide +kernel) (by decide +kernel), gT_in 22 (by decide +kernel) (by decide +kernel), gT_in 34 (by decide +kernel) (by decide +kernel), gT_in 612 (by decide +kernel) (by decide +kernel)⟩, by decide +kernel, by decide +kernel, by decide +kernel, by decide +kernel⟩
theorem kL_53 : CalV RL 53 RX4 yX4_sent cX4_sent 4 (some .int) 3 := ⟨⟨gT_in 613 (by decide +kernel) (by decide +kernel), gT_in 614 (by decide +kernel) (by decide +kernel), gT_in 615 (by decide +kernel) (by decide +kernel), gT_in 34 (by decide +kernel) (by decide +kernel), gT_in 616 (by decide +kernel) (by decide +kernel)⟩, by decide +kernel, by decide +kernel, by decide +kernel, by decide +kernel⟩
theorem kL_57 : CalV RL 57 RX4 yX4_find cX4_find 5 (some .int) 4 := ⟨⟨gT_in 617 (by decide +kernel) (by decide +kernel), gT_in 618 (by decide +kernel) (by decide +kernel), gT_in 619 (by decide +kernel) (by decide +kernel), gT_in 34 (by decide +kernel) (by decide +kernel), gT_in 620 (by decide +kernel) (by decide +kernel)⟩, by decide +kernel, by decide +kernel, by decide +kernel, by decide +kernel⟩
theorem kL_61 : CalV RL 61 RX4 yX4_next cX4_next 3 (some .int) 2 := ⟨⟨gT_in 621 (by decide +kernel) (by decide +kernel), gT_in 622 (by decide +kernel) (by decide +kernel), gT_in 623 (by decide +kernel) (by decide +kernel), gT_in 34 (by decide +kernel) (by decide +kernel), gT_in 624 (by decide +kernel) (by decide +kernel)⟩, by decide +kernel, by decide +kernel, by decide +kernel, by decide +kernel⟩
theorem kL_65 : CalV RL 65 RX4 yX4_why cX4_why 4 (some .int) 3 := ⟨⟨gT_in 625 (by decide +kernel) (by decide +kernel), gT_in 626 (by decide +kernel) (by decide +kernel), gT_in 627 (by decide +kernel) (by decide +kernel), gT_in 34 (by decide +kernel) (by decide +kernel), gT_in 628 (by decide +kernel) (by decide +kernel)⟩, by decide +kernel, by decide +kernel, by decide +kernel, by decide +kernel⟩
theorem kL_69 : CalV RL 69 RX4 yX4_block cX4_block 2 (some .int) 1 := ⟨⟨gT_in 629 (by decide +kernel) (by decide +kernel), gT_in 630 (by decide +kernel) (by decide +kernel), gT_in 631 (by decide +kernel) (by decide +kernel), gT_in 34 (by decide +kernel) (by decide +kernel), gT_in 632 (by decide +kernel) (by decide +kernel)⟩, by decide +kernel, by decide +kernel, by decide +kernel, by decide +kernel⟩
theorem kL_73 : CalV RL 73 RX4 yX4_host cX4_host 3 (some .int) 2 := ⟨⟨gT_in 633 (by decide +kernel) (by decide +kernel), gT_in 634 (by decide +kernel) (by decide +kernel), gT_in 635 (by decide +kernel) (by decide +kernel), gT_in 34 (by decide +kernel) (by decide +kernel), gT_in 636 (by decide +kernel) (by decide +kernel)⟩, by decide +kernel, by decide +kernel, by decide +kernel, by decide +kernel⟩
theorem kX4_121 : CalV RX4 121 RX4 yX4_bindingsOf cX4_bindingsOf 4 (some .int) 1 := ⟨⟨gT_in 637 (by decide +kernel) (by decide +kernel), gT_in 639 (by decide +kernel) (by decide +kernel), gT_in 23 (by decide +kernel) (by decide +kernel), gT_in 34 (by decide +kernel) (by decide +kernel), gT_in 640 (by decide +kernel) (by decide +kernel)⟩, by decide +kernel, by decide +kernel, by decide +kernel, by decide +kernel⟩
theorem kX4_124 : CalV RX4 124 RX4 yX4_blocksOf cX4_blocksOf 4 (some .int) 1 := ⟨⟨gT_in 641 (by decide +kernel) (by decide +kernel), gT_in 643 (by decide +kernel) (by decide +kernel), gT_in 24 (by decide +kernel) (by decide +kernel), gT_in 34 (by decide +kernel) (by decide +kernel), gT_in 644 (by decide +kernel) (by decide +kernel)⟩, by decide +kernel, by decide +kernel, by decide +kernel, by decide +kernel⟩
theorem kX4_127 : CalV RX4 127 RX4 yX4_roomFor cX4_roomFor 6 (some .int) 2 := ⟨⟨gT_in 645 (by decide +kernel) (by decide +kernel), gT_in 647 (by decide +kernel) (by decide +kernel), gT_in 25 (by decide +kernel) (by decide +kernel), gT_in 34 (by decide +kernel) (by decide +kernel), gT_in 648 (by decide +kernel) (by decide +kernel)⟩, by decide +kernel, by decide +kernel, by decide +kernel, by decide +kernel⟩
theorem kL_78 : CalV RL 78 RX4 yX4_soon cX4_soon 4 (some .int) 0 := ⟨⟨gT_in 649 (by decide +kernel) (by decide +kernel), gT_in 650 (by decide +kernel) (by decide +kernel), gT_in 651 (by decide +kernel) (by decide +kernel), gT_in 34 (by decide +kernel) (by decide +kernel), gT_in 652 (by decide +kernel) (by decide +kernel)⟩, by decide +kernel, by decide +kernel, by decide +kernel, by decide +kernel⟩
theorem kL_82 : CalV RL 82 RX4 yX4_image cX4_image 3 (some .int) 1 := ⟨⟨gT_in 653 (by decide +kernel) (by decide +kernel), gT_in 654 (by decide +kernel) (by decide +kernel), gT_in 655 (by decide +kernel) (by decide +kernel), gT_in 34 (by decide +kernel) (by decide +kernel), gT_in 656 (by decide +kernel) (by decide +kernel)⟩, by decide +kernel, by decide +kernel, by decide +kernel, by decide +kernel⟩
theorem kL_86 : CalV RL 86 RX4 yX4_restore cX4_restore 3 (some .int) 1 := ⟨⟨gT_in 657 (by decide +kernel) (by decide +kernel), gT_in 658 (by decide +kernel) (by decide +kernel), gT_in 659 (by decide +kernel) (by decide +kernel), gT_in 34 (by decide +kernel) (by decide +kernel), gT_in 660 (by decide +kernel) (by decide +kernel)⟩, by decide +kernel, by decide +kernel, by decide +kernel, by decide +kernel⟩
theorem kL_90 : CalV RL 90 RX4 yX4_count cX4_count 2 (some .int) 1 := ⟨⟨gT_in 661 (by decide +kernel) (by decide +kernel), gT_in 662 (by decide +kernel) (by decide +kernel), gT_in 663 (by decide +kernel) (by decide +kernel), gT_in 34 (by decide +kernel) (by decide +kernel), gT_in 664 (by decide +kernel) (by decide +kernel)⟩, by decide +kernel, by decide +kernel, by decide +kernel, by decide +kernel⟩
theorem kX4_130 : CalV RX4 130 RX4 yX4_lentMany cX4_lentMany 3 (some .int) 0 := ⟨⟨gT_in 665 (by decide +kernel) (by decide +kernel), gT_in 667 (by decide +kernel) (by decide +kernel), gT_in 26 (by decide +kernel) (by decide +kernel), gT_in 34 (by decide +kernel) (by decide +kernel), gT_in 668 (by decide +kernel) (by decide +kernel)⟩, by decide +kernel, by decide +kernel, by decide +kernel, by decide +kernel⟩
theorem kX4_133 : CalS RX4 133 yX4_bits cX4_bits 3 (some .int) 1 := ⟨⟨gT_in 669 (by decide +kernel) (by decide +kernel), gT_in 670 (by decide +kernel) (by decide +kernel), gT_in 34 (by decide +kernel) (by decide +kernel), gT_in 671 (by decide +kernel) (by decide +kernel)⟩, by decide +kernel, by decide +kernel, by decide +kernel⟩
theorem kX4_136 : CalV RX4 136 RX4 yX4_knownMany cX4_knownMany 3 (some .int) 0 := ⟨⟨gT_in 672 (by decide +kernel) (by decide +kernel), gT_in 674 (by decide +kernel) (by decide +kernel), gT_in 27 (by decide +kernel) (by decide +kernel), gT_in 34 (by decide +kernel) (by decide +kernel), gT_in 675 (by decide +kernel) (by decide +kernel)⟩, by decide +kernel, by decide +kernel, by decide +kernel, by decide +kernel⟩
end
section
theorem dX0_init_0 : decode cX0_init 0 = .ok (.aload_n 0, 1) := by decide +kernel
theorem dX0_init_1 : decode cX0_init 1 = .ok (.invokespecial 3, 3) := by decide +kernel
theorem dX0_init_4 : decode cX0_init 4 = .ok (.aload_n 0, 1) := by decide +kernel
theorem dX0_init_5 : decode cX0_init 5 = .ok (.bipush 16, 2) := by decide +kernel
theorem dX0_init_7 : decode cX0_init 7 = .ok (.newarray .int, 2) := by decide +kernel
theorem dX0_init_9 : decode cX0_init 9 = .ok (.putfield 9, 3) := by decide +kernel
theorem dX0_init_12 : decode cX0_init 12 = .ok (.aload_n 0, 1) := by decide +kernel
theorem dX0_init_13 : decode cX0_init 13 = .ok (.bipush 16, 2) := by decide +kernel
theorem dX0_init_15 : decode cX0_init 15 = .ok (.newarray .int, 2) := by decide +kernel
theorem dX0_init_17 : decode cX0_init 17 = .ok (.putfield 15, 3) := by decide +kernel
theorem dX0_init_20 : decode cX0_init 20 = .ok (.aload_n 0, 1) := by decide +kernel
theorem dX0_init_21 : decode cX0_init 21 = .ok (.bipush 16, 2) := by decide +kernel
theorem dX0_init_23 : decode cX0_init 23 = .ok (.newarray .int, 2) := by decide +kernel
theorem dX0_init_25 : decode cX0_init 25 = .ok (.putfield 18, 3) := by decide +kernel
theorem dX0_init_28 : decode cX0_init 28 = .ok (.aload_n 0, 1) := by decide +kernel
theorem dX0_init_29 : decode cX0_init 29 = .ok (.bipush 16, 2) := by decide +kernel
theorem dX0_init_31 : decode cX0_init 31 = .ok (.newarray .int, 2) := by decide +kernel
theorem dX0_init_33 : decode cX0_init 33 = .ok (.putfield 21, 3) := by decide +kernel
theorem dX0_init_36 : decode cX0_init 36 = .ok (.aload_n 0, 1) := by decide +kernel
theorem dX0_init_37 : decode cX0_init 37 = .ok (.bipush 16, 2) := by decide +kernel
theorem dX0_init_39 : decode cX0_init 39 = .ok (.newarray .int, 2) := by decide +kernel
theorem dX0_init_41 : decode cX0_init 41 = .ok (.putfield 24, 3) := by decide +kernel
theorem dX0_init_44 : decode cX0_init 44 = .ok (.aload_n 0, 1) := by decide +kernel
theorem dX0_init_45 : decode cX0_init 45 = .ok (.bipush 80, 2) := by decide +kernel
theorem dX0_init_47 : decode cX0_init 47 = .ok (.newarray .int, 2) := by decide +kernel
theorem dX0_init_49 : decode cX0_init 49 = .ok (.putfield 27, 3) := by decide +kernel
theorem dX0_init_52 : decode cX0_init 52 = .ok (.aload_n 0, 1) := by decide +kernel
theorem dX0_init_53 : decode cX0_init 53 = .ok (.getfield 9, 3) := by decide +kernel
theorem dX0_init_56 : decode cX0_init 56 = .ok (.bipush (-6), 2) := by decide +kernel
theorem dX0_init_58 : decode cX0_init 58 = .ok (.invokestatic 30, 3) := by decide +kernel
theorem dX0_init_61 : decode cX0_init 61 = .ok (.return_, 1) := by decide +kernel
theorem dX0_isLent_0 : decode cX0_isLent 0 = .ok (.aload_n 0, 1) := by decide +kernel
theorem dX0_isLent_1 : decode cX0_isLent 1 = .ok (.getfield 9, 3) := by decide +kernel
theorem dX0_isLent_4 : decode cX0_isLent 4 = .ok (.iload_n 1, 1) := by decide +kernel
theorem dX0_isLent_5 : decode cX0_isLent 5 = .ok (.iaload, 1) := by decide +kernel
theorem dX0_isLent_6 : decode cX0_isLent 6 = .ok (.bipush (-6), 2) := by decide +kernel
theorem dX0_isLent_8 : decode cX0_isLent 8 = .ok (.if_icmp .eq 7, 3) := by decide +kernel
theorem dX0_isLent_11 : decode cX0_isLent 11 = .ok (.iconst 1, 1) := by decide +kernel
theorem dX0_isLent_12 : decode cX0_isLent 12 = .ok (.goto 4, 3) := by decide +kernel
theorem dX0_isLent_15 : decode cX0_isLent 15 = .ok (.iconst 0, 1) := by decide +kernel
theorem dX0_isLent_16 : decode cX0_isLent 16 = .ok (.ireturn, 1) := by decide +kernel
theorem dX0_hostOf_0 : decode cX0_hostOf 0 = .ok (.aload_n 0, 1) := by decide +kernel
theorem dX0_hostOf_1 : decode cX0_hostOf 1 = .ok (.iload_n 1, 1) := by decide +kernel
theorem dX0_hostOf_2 : decode cX0_hostOf 2 = .ok (.invokevirtual 36, 3) := by decide +kernel
theorem dX0_hostOf_5 : decode cX0_hostOf 5 = .ok (.ifCond .eq 15, 3) := by decide +kernel
theorem dX0_hostOf_8 : decode cX0_hostOf 8 = .ok (.aload_n 0, 1) := by decide +kernel
theorem dX0_hostOf_9 : decode cX0_hostOf 9 = .ok (.getfield 9, 3) := by decide +kernel
theorem dX0_hostOf_12 : decode cX0_hostOf 12 = .ok (.iload_n 1, 1) := by decide +kernel
theorem dX0_hostOf_13 : decode cX0_hostOf 13 = .ok (.iaload, 1) := by decide +kernel
theorem dX0_hostOf_14 : decode cX0_hostOf 14 = .ok (.bipush 32, 2) := by decide +kernel
theorem dX0_hostOf_16 : decode cX0_hostOf 16 = .ok (.idiv, 1) := by decide +kernel
theorem dX0_hostOf_17 : decode cX0_hostOf 17 = .ok (.goto 5, 3) := by decide +kernel
theorem dX0_hostOf_20 : decode cX0_hostOf 20 = .ok (.bipush (-6), 2) := by decide +kernel
theorem dX0_hostOf_22 : decode cX0_hostOf 22 = .ok (.ireturn, 1) := by decide +kernel
theorem dX0_seek_0 : decode cX0_seek 0 = .ok (.iconst 0, 1) := by decide +kernel
theorem dX0_seek_1 : decode cX0_seek 1 = .ok (.istore 4, 2) := by decide +kernel
theorem dX0_seek_3 : decode cX0_seek 3 = .ok (.iload 4, 2) := by decide +kernel
theorem dX0_seek_5 : decode cX0_seek 5 = .ok (.bipush 16, 2) := by decide +kernel
theorem dX0_seek_7 : decode cX0_seek 7 = .ok (.if_icmp .ge 34, 3) := by decide +kernel
theorem dX0_seek_10 : decode cX0_seek 10 = .ok (.aload_n 0, 1) := by decide +kernel
theorem dX0_seek_11 : decode cX0_seek 11 = .ok (.getfield 9, 3) := by decide +kernel
theorem dX0_seek_14 : decode cX0_seek 14 = .ok (.iload 4, 2) := by decide +kernel
theorem dX0_seek_16 : decode cX0_seek 16 = .ok (.iaload, 1) := by decide +kernel
theorem dX0_seek_17 : decode cX0_seek 17 = .ok (.iload_n 1, 1) := by decide +kernel
theorem dX0_seek_18 : decode cX0_seek 18 = .ok (.if_icmp .ne 17, 3) := by decide +kernel
theorem dX0_seek_21 : decode cX0_seek 21 = .ok (.aload_n 0, 1) := by decide +kernel
theorem dX0_seek_22 : decode cX0_seek 22 = .ok (.iload 4, 2) := by decide +kernel
theorem dX0_seek_24 : decode cX0_seek 24 = .ok (.iload_n 2, 1) := by decide +kernel
theorem dX0_seek_25 : decode cX0_seek 25 = .ok (.iload_n 3, 1) := by decide +kernel
theorem dX0_seek_26 : decode cX0_seek 26 = .ok (.invokevirtual 40, 3) := by decide +kernel
theorem dX0_seek_29 : decode cX0_seek 29 = .ok (.ifCond .eq 6, 3) := by decide +kernel
theorem dX0_seek_32 : decode cX0_seek 32 = .ok (.iload 4, 2) := by decide +kernel
theorem dX0_seek_34 : decode cX0_seek 34 = .ok (.ireturn, 1) := by decide +kernel
theorem dX0_seek_35 : decode cX0_seek 35 = .ok (.iinc 4 1, 3) := by decide +kernel
theorem dX0_seek_38 : decode cX0_seek 38 = .ok (.goto (-35), 3) := by decide +kernel
theorem dX0_seek_41 : decode cX0_seek 41 = .ok (.bipush (-6), 2) := by decide +kernel
theorem dX0_seek_43 : decode cX0_seek 43 = .ok (.ireturn, 1) := by decide +kernel
theorem dX0_isFor_0 : decode cX0_isFor 0 = .ok (.aload_n 0, 1) := by decide +kernel
theorem dX0_isFor_1 : decode cX0_isFor 1 = .ok (.getfield 21, 3) := by decide +kernel
theorem dX0_isFor_4 : decode cX0_isFor 4 = .ok (.iload_n 1, 1) := by decide +kernel
theorem dX0_isFor_5 : decode cX0_isFor 5 = .ok (.iaload, 1) := by decide +kernel
theorem dX0_isFor_6 : decode cX0_isFor 6 = .ok (.bipush (-6), 2) := by decide +kernel
theorem dX0_isFor_8 : decode cX0_isFor 8 = .ok (.if_icmp .eq 13, 3) := by decide +kernel
theorem dX0_isFor_11 : decode cX0_isFor 11 = .ok (.aload_n 0, 1) := by decide +kernel
theorem dX0_isFor_12 : decode cX0_isFor 12 = .ok (.getfield 21, 3) := by decide +kernel
theorem dX0_isFor_15 : decode cX0_isFor 15 = .ok (.iload_n 1, 1) := by decide +kernel
theorem dX0_isFor_16 : decode cX0_isFor 16 = .ok (.iaload, 1) := by decide +kernel
theorem dX0_isFor_17 : decode cX0_isFor 17 = .ok (.iload_n 2, 1) := by decide +kernel
theorem dX0_isFor_18 : decode cX0_isFor 18 = .ok (.if_icmp .ne 28, 3) := by decide +kernel
theorem dX0_isFor_21 : decode cX0_isFor 21 = .ok (.aload_n 0, 1) := by decide +kernel
theorem dX0_isFor_22 : decode cX0_isFor 22 = .ok (.getfield 24, 3) := by decide +kernel
theorem dX0_isFor_25 : decode cX0_isFor 25 = .ok (.iload_n 1, 1) := by decide +kernel
theorem dX0_isFor_26 : decode cX0_isFor 26 = .ok (.iaload, 1) := by decide +kernel
theorem dX0_isFor_27 : decode cX0_isFor 27 = .ok (.bipush (-6), 2) := by decide +kernel
theorem dX0_isFor_29 : decode cX0_isFor 29 = .ok (.if_icmp .eq 13, 3) := by decide +kernel
theorem dX0_isFor_32 : decode cX0_isFor 32 = .ok (.aload_n 0, 1) := by decide +kernel
theorem dX0_isFor_33 : decode cX0_isFor 33 = .ok (.getfield 24, 3) := by decide +kernel
theorem dX0_isFor_36 : decode cX0_isFor 36 = .ok (.iload_n 1, 1) := by decide +kernel
theorem dX0_isFor_37 : decode cX0_isFor 37 = .ok (.iaload, 1) := by decide +kernel
theorem dX0_isFor_38 : decode cX0_isFor 38 = .ok (.iload_n 3, 1) := by decide +kernel
theorem dX0_isFor_39 : decode cX0_isFor 39 = .ok (.if_icmp .ne 7, 3) := by decide +kernel
theorem dX0_isFor_42 : decode cX0_isFor 42 = .ok (.iconst 1, 1) := by decide +kernel
theorem dX0_isFor_43 : decode cX0_isFor 43 = .ok (.goto 4, 3) := by decide +kernel
theorem dX0_isFor_46 : decode cX0_isFor 46 = .ok (.iconst 0, 1) := by decide +kernel
theorem dX0_isFor_47 : decode cX0_isFor 47 = .ok (.ireturn, 1) := by decide +kernel
theorem dX0_lend_0 : decode cX0_lend 0 = .ok (.aload_n 0, 1) := by decide +kernel
theorem dX0_lend_1 : decode cX0_lend 1 = .ok (.getfield 9, 3) := by decide +kernel
theorem dX0_lend_4 : decode cX0_lend 4 = .ok (.iload_n 1, 1) := by decide +kernel
theorem dX0_lend_5 : decode cX0_lend 5 = .ok (.iload_n 2, 1) := by decide +kernel
theorem dX0_lend_6 : decode cX0_lend 6 = .ok (.iastore, 1) := by decide +kernel
theorem dX0_lend_7 : decode cX0_lend 7 = .ok (.aload_n 0, 1) := by decide +kernel
theorem dX0_lend_8 : decode cX0_lend 8 = .ok (.getfield 15, 3) := by decide +kernel
theorem dX0_lend_11 : decode cX0_lend 11 = .ok (.iload_n 1, 1) := by decide +kernel
theorem dX0_lend_12 : decode cX0_lend 12 = .ok (.iconst 0, 1) := by decide +kernel
theorem dX0_lend_13 : decode cX0_lend 13 = .ok (.iastore, 1) := by decide +kernel
theorem dX0_lend_14 : decode cX0_lend 14 = .ok (.aload_n 0, 1) := by decide +kernel
theorem dX0_lend_15 : decode cX0_lend 15 = .ok (.getfield 21, 3) := by decide +kernel
theorem dX0_lend_18 : decode cX0_lend 18 = .ok (.iload_n 1, 1) := by decide +kernel
theorem dX0_lend_19 : decode cX0_lend 19 = .ok (.iload_n 3, 1) := by decide +kernel
theorem dX0_lend_20 : decode cX0_lend 20 = .ok (.iastore, 1) := by decide +kernel
theorem dX0_lend_21 : decode cX0_lend 21 = .ok (.aload_n 0, 1) := by decide +kernel
theorem dX0_lend_22 : decode cX0_lend 22 = .ok (.getfield 24, 3) := by decide +kernel
theorem dX0_lend_25 : decode cX0_lend 25 = .ok (.iload_n 1, 1) := by decide +kernel
theorem dX0_lend_26 : decode cX0_lend 26 = .ok (.iload 4, 2) := by decide +kernel
theorem dX0_lend_28 : decode cX0_lend 28 = .ok (.iastore, 1) := by decide +kernel
theorem dX0_lend_29 : decode cX0_lend 29 = .ok (.iconst 0, 1) := by decide +kernel
theorem dX0_lend_30 : decode cX0_lend 30 = .ok (.istore 5, 2) := by decide +kernel
theorem dX0_lend_32 : decode cX0_lend 32 = .ok (.iload 5, 2) := by decide +kernel
theorem dX0_lend_34 : decode cX0_lend 34 = .ok (.iconst 5, 1) := by decide +kernel
theorem dX0_lend_35 : decode cX0_lend 35 = .ok (.if_icmp .ge 21, 3) := by decide +kernel
theorem dX0_lend_38 : decode cX0_lend 38 = .ok (.aload_n 0, 1) := by decide +kernel
theorem dX0_lend_39 : decode cX0_lend 39 = .ok (.getfield 27, 3) := by decide +kernel
theorem dX0_lend_42 : decode cX0_lend 42 = .ok (.iload_n 1, 1) := by decide +kernel
theorem dX0_lend_43 : decode cX0_lend 43 = .ok (.iconst 5, 1) := by decide +kernel
theorem dX0_lend_44 : decode cX0_lend 44 = .ok (.imul, 1) := by decide +kernel
theorem dX0_lend_45 : decode cX0_lend 45 = .ok (.iload 5, 2) := by decide +kernel
theorem dX0_lend_47 : decode cX0_lend 47 = .ok (.iadd, 1) := by decide +kernel
theorem dX0_lend_48 : decode cX0_lend 48 = .ok (.iconst 0, 1) := by decide +kernel
theorem dX0_lend_49 : decode cX0_lend 49 = .ok (.iastore, 1) := by decide +kernel
theorem dX0_lend_50 : decode cX0_lend 50 = .ok (.iinc 5 1, 3) := by decide +kernel
theorem dX0_lend_53 : decode cX0_lend 53 = .ok (.goto (-21), 3) := by decide +kernel
theorem dX0_lend_56 : decode cX0_lend 56 = .ok (.return_, 1) := by decide +kernel
theorem dX0_unlend_0 : decode cX0_unlend 0 = .ok (.aload_n 0, 1) := by decide +kernel
theorem dX0_unlend_1 : decode cX0_unlend 1 = .ok (.getfield 9, 3) := by decide +kernel
theorem dX0_unlend_4 : decode cX0_unlend 4 = .ok (.iload_n 1, 1) := by decide +kernel
theorem dX0_unlend_5 : decode cX0_unlend 5 = .ok (.bipush (-6), 2) := by decide +kernel
theorem dX0_unlend_7 : decode cX0_unlend 7 = .ok (.iastore, 1) := by decide +kernel
theorem dX0_unlend_8 : decode cX0_unlend 8 = .ok (.return_, 1) := by decide +kernel
theorem dX0_markSent_0 : decode cX0_markSent 0 = .ok (.aload_n 0, 1) := by decide +kernel
theorem dX0_markSent_1 : decode cX0_markSent 1 = .ok (.getfield 27, 3) := by decide +kernel
theorem dX0_markSent_4 : decode cX0_markSent 4 = .ok (.iload_n 1, 1) := by decide +kernel
theorem dX0_markSent_5 : decode cX0_markSent 5 = .ok (.iconst 5, 1) := by decide +kernel
theorem dX0_markSent_6 : decode cX0_markSent 6 = .ok (.imul, 1) := by decide +kernel
theorem dX0_markSent_7 : decode cX0_markSent 7 = .ok (.iload_n 2, 1) := by decide +kernel
theorem dX0_markSent_8 : decode cX0_markSent 8 = .ok (.iadd, 1) := by decide +kernel
theorem dX0_markSent_9 : decode cX0_markSent 9 = .ok (.dup2, 1) := by decide +kernel
theorem dX0_markSent_10 : decode cX0_markSent 10 = .ok (.iaload, 1) := by decide +kernel
theorem dX0_markSent_11 : decode cX0_markSent 11 = .ok (.iconst 1, 1) := by decide +kernel
theorem dX0_markSent_12 : decode cX0_markSent 12 = .ok (.iload_n 3, 1) := by decide +kernel
theorem dX0_markSent_13 : decode cX0_markSent 13 = .ok (.ishl, 1) := by decide +kernel
theorem dX0_markSent_14 : decode cX0_markSent 14 = .ok (.ior, 1) := by decide +kernel
theorem dX0_markSent_15 : decode cX0_markSent 15 = .ok (.iastore, 1) := by decide +kernel
theorem dX0_markSent_16 : decode cX0_markSent 16 = .ok (.return_, 1) := by decide +kernel
theorem dX0_isSent_0 : decode cX0_isSent 0 = .ok (.aload_n 0, 1) := by decide +kernel
theorem dX0_isSent_1 : decode cX0_isSent 1 = .ok (.getfield 27, 3) := by decide +kernel
theorem dX0_isSent_4 : decode cX0_isSent 4 = .ok (.iload_n 1, 1) := by decide +kernel
theorem dX0_isSent_5 : decode cX0_isSent 5 = .ok (.iconst 5, 1) := by decide +kernel
theorem dX0_isSent_6 : decode cX0_isSent 6 = .ok (.imul, 1) := by decide +kernel
theorem dX0_isSent_7 : decode cX0_isSent 7 = .ok (.iload_n 2, 1) := by decide +kernel
theorem dX0_isSent_8 : decode cX0_isSent 8 = .ok (.iadd, 1) := by decide +kernel
theorem dX0_isSent_9 : decode cX0_isSent 9 = .ok (.iaload, 1) := by decide +kernel
theorem dX0_isSent_10 : decode cX0_isSent 10 = .ok (.iload_n 3, 1) := by decide +kernel
theorem dX0_isSent_11 : decode cX0_isSent 11 = .ok (.iushr, 1) := by decide +kernel
theorem dX0_isSent_12 : decode cX0_isSent 12 = .ok (.iconst 1, 1) := by decide +kernel
theorem dX0_isSent_13 : decode cX0_isSent 13 = .ok (.iand, 1) := by decide +kernel
theorem dX0_isSent_14 : decode cX0_isSent 14 = .ok (.iconst 1, 1) := by decide +kernel
theorem dX0_isSent_15 : decode cX0_isSent 15 = .ok (.if_icmp .ne 7, 3) := by decide +kernel
theorem dX0_isSent_18 : decode cX0_isSent 18 = .ok (.iconst 1, 1) := by decide +kernel
theorem dX0_isSent_19 : decode cX0_isSent 19 = .ok (.goto 4, 3) := by decide +kernel
theorem dX0_isSent_22 : decode cX0_isSent 22 = .ok (.iconst 0, 1) := by decide +kernel
theorem dX0_isSent_23 : decode cX0_isSent 23 = .ok (.ireturn, 1) := by decide +kernel
theorem dX0_isAnySent_0 : decode cX0_isAnySent 0 = .ok (.aload_n 0, 1) := by decide +kernel
theorem dX0_isAnySent_1 : decode cX0_isAnySent 1 = .ok (.getfield 27, 3) := by decide +kernel
theorem dX0_isAnySent_4 : decode cX0_isAnySent 4 = .ok (.iload_n 1, 1) := by decide +kernel
theorem dX0_isAnySent_5 : decode cX0_isAnySent 5 = .ok (.iconst 5, 1) := by decide +kernel
theorem dX0_isAnySent_6 : decode cX0_isAnySent 6 = .ok (.imul, 1) := by decide +kernel
theorem dX0_isAnySent_7 : decode cX0_isAnySent 7 = .ok (.iload_n 2, 1) := by decide +kernel
theorem dX0_isAnySent_8 : decode cX0_isAnySent 8 = .ok (.iadd, 1) := by decide +kernel
theorem dX0_isAnySent_9 : decode cX0_isAnySent 9 = .ok (.iaload, 1) := by decide +kernel
theorem dX0_isAnySent_10 : decode cX0_isAnySent 10 = .ok (.ifCond .eq 7, 3) := by decide +kernel
theorem dX0_isAnySent_13 : decode cX0_isAnySent 13 = .ok (.iconst 1, 1) := by decide +kernel
theorem dX0_isAnySent_14 : decode cX0_isAnySent 14 = .ok (.goto 4, 3) := by decide +kernel
theorem dX0_isAnySent_17 : decode cX0_isAnySent 17 = .ok (.iconst 0, 1) := by decide +kernel
theorem dX0_isAnySent_18 : decode cX0_isAnySent 18 = .ok (.ireturn, 1) := by decide +kernel
theorem dX0_countSent_0 : decode cX0_countSent 0 = .ok (.iconst 0, 1) := by decide +kernel
theorem dX0_countSent_1 : decode cX0_countSent 1 = .ok (.istore_n 2, 1) := by decide +kernel
theorem dX0_countSent_2 : decode cX0_countSent 2 = .ok (.iconst 0, 1) := by decide +kernel
theorem dX0_countSent_3 : decode cX0_countSent 3 = .ok (.istore_n 3, 1) := by decide +kernel
theorem dX0_countSent_4 : decode cX0_countSent 4 = .ok (.iload_n 3, 1) := by decide +kernel
theorem dX0_countSent_5 : decode cX0_countSent 5 = .ok (.iconst 5, 1) := by decide +kernel
theorem dX0_countSent_6 : decode cX0_countSent 6 = .ok (.if_icmp .ge 25, 3) := by decide +kernel
theorem dX0_countSent_9 : decode cX0_countSent 9 = .ok (.iload_n 2, 1) := by decide +kernel
theorem dX0_countSent_10 : decode cX0_countSent 10 = .ok (.aload_n 0, 1) := by decide +kernel
theorem dX0_countSent_11 : decode cX0_countSent 11 = .ok (.getfield 27, 3) := by decide +kernel
theorem dX0_countSent_14 : decode cX0_countSent 14 = .ok (.iload_n 1, 1) := by decide +kernel
theorem dX0_countSent_15 : decode cX0_countSent 15 = .ok (.iconst 5, 1) := by decide +kernel
theorem dX0_countSent_16 : decode cX0_countSent 16 = .ok (.imul, 1) := by decide +kernel
theorem dX0_countSent_17 : decode cX0_countSent 17 = .ok (.iload_n 3, 1) := by decide +kernel
theorem dX0_countSent_18 : decode cX0_countSent 18 = .ok (.iadd, 1) := by decide +kernel
theorem dX0_countSent_19 : decode cX0_countSent 19 = .ok (.iaload, 1) := by decide +kernel
theorem dX0_countSent_20 : decode cX0_countSent 20 = .ok (.invokestatic 44, 3) := by decide +kernel
theorem dX0_countSent_23 : decode cX0_countSent 23 = .ok (.iadd, 1) := by decide +kernel
theorem dX0_countSent_24 : decode cX0_countSent 24 = .ok (.istore_n 2, 1) := by decide +kernel
theorem dX0_countSent_25 : decode cX0_countSent 25 = .ok (.iinc 3 1, 3) := by decide +kernel
theorem dX0_countSent_28 : decode cX0_countSent 28 = .ok (.goto (-24), 3) := by decide +kernel
theorem dX0_countSent_31 : decode cX0_countSent 31 = .ok (.iload_n 2, 1) := by decide +kernel
theorem dX0_countSent_32 : decode cX0_countSent 32 = .ok (.ireturn, 1) := by decide +kernel
theorem dX0_countAll_0 : decode cX0_countAll 0 = .ok (.iconst 0, 1) := by decide +kernel
theorem dX0_countAll_1 : decode cX0_countAll 1 = .ok (.istore_n 1, 1) := by decide +kernel
theorem dX0_countAll_2 : decode cX0_countAll 2 = .ok (.iconst 0, 1) := by decide +kernel
theorem dX0_countAll_3 : decode cX0_countAll 3 = .ok (.istore_n 2, 1) := by decide +kernel
theorem dX0_countAll_4 : decode cX0_countAll 4 = .ok (.iload_n 2, 1) := by decide +kernel
theorem dX0_countAll_5 : decode cX0_countAll 5 = .ok (.bipush 16, 2) := by decide +kernel
theorem dX0_countAll_7 : decode cX0_countAll 7 = .ok (.if_icmp .ge 20, 3) := by decide +kernel
theorem dX0_countAll_10 : decode cX0_countAll 10 = .ok (.aload_n 0, 1) := by decide +kernel
theorem dX0_countAll_11 : decode cX0_countAll 11 = .ok (.iload_n 2, 1) := by decide +kernel
theorem dX0_countAll_12 : decode cX0_countAll 12 = .ok (.invokevirtual 36, 3) := by decide +kernel
theorem dX0_countAll_15 : decode cX0_countAll 15 = .ok (.ifCond .eq 6, 3) := by decide +kernel
theorem dX0_countAll_18 : decode cX0_countAll 18 = .ok (.iinc 1 1, 3) := by decide +kernel
theorem dX0_countAll_21 : decode cX0_countAll 21 = .ok (.iinc 2 1, 3) := by decide +kernel
theorem dX0_countAll_24 : decode cX0_countAll 24 = .ok (.goto (-20), 3) := by decide +kernel
theorem dX0_countAll_27 : decode cX0_countAll 27 = .ok (.iload_n 1, 1) := by decide +kernel
theorem dX0_countAll_28 : decode cX0_countAll 28 = .ok (.ireturn, 1) := by decide +kernel
theorem dX0_countOfHost_0 : decode cX0_countOfHost 0 = .ok (.iconst 0, 1) := by decide +kernel
theorem dX0_countOfHost_1 : decode cX0_countOfHost 1 = .ok (.istore_n 2, 1) := by decide +kernel
theorem dX0_countOfHost_2 : decode cX0_countOfHost 2 = .ok (.iconst 0, 1) := by decide +kernel
theorem dX0_countOfHost_3 : decode cX0_countOfHost 3 = .ok (.istore_n 3, 1) := by decide +kernel
theorem dX0_countOfHost_4 : decode cX0_countOfHost 4 = .ok (.iload_n 3, 1) := by decide +kernel
theorem dX0_countOfHost_5 : decode cX0_countOfHost 5 = .ok (.bipush 16, 2) := by decide +kernel
theorem dX0_countOfHost_7 : decode cX0_countOfHost 7 = .ok (.if_icmp .ge 21, 3) := by decide +kernel
theorem dX0_countOfHost_10 : decode cX0_countOfHost 10 = .ok (.aload_n 0, 1) := by decide +kernel
theorem dX0_countOfHost_11 : decode cX0_countOfHost 11 = .ok (.iload_n 3, 1) := by decide +kernel
theorem dX0_countOfHost_12 : decode cX0_countOfHost 12 = .ok (.invokevirtual 50, 3) := by decide +kernel
theorem dX0_countOfHost_15 : decode cX0_countOfHost 15 = .ok (.iload_n 1, 1) := by decide +kernel
theorem dX0_countOfHost_16 : decode cX0_countOfHost 16 = .ok (.if_icmp .ne 6, 3) := by decide +kernel
theorem dX0_countOfHost_19 : decode cX0_countOfHost 19 = .ok (.iinc 2 1, 3) := by decide +kernel
theorem dX0_countOfHost_22 : decode cX0_countOfHost 22 = .ok (.iinc 3 1, 3) := by decide +kernel
theorem dX0_countOfHost_25 : decode cX0_countOfHost 25 = .ok (.goto (-21), 3) := by decide +kernel
theorem dX0_countOfHost_28 : decode cX0_countOfHost 28 = .ok (.iload_n 2, 1) := by decide +kernel
theorem dX0_countOfHost_29 : decode cX0_countOfHost 29 = .ok (.ireturn, 1) := by decide +kernel
theorem dX0_holderOf_0 : decode cX0_holderOf 0 = .ok (.iconst 0, 1) := by decide +kernel
theorem dX0_holderOf_1 : decode cX0_holderOf 1 = .ok (.istore_n 2, 1) := by decide +kernel
theorem dX0_holderOf_2 : decode cX0_holderOf 2 = .ok (.iload_n 2, 1) := by decide +kernel
theorem dX0_holderOf_3 : decode cX0_holderOf 3 = .ok (.iconst 4, 1) := by decide +kernel
theorem dX0_holderOf_4 : decode cX0_holderOf 4 = .ok (.if_icmp .ge 31, 3) := by decide +kernel
theorem dX0_holderOf_7 : decode cX0_holderOf 7 = .ok (.aload_n 0, 1) := by decide +kernel
theorem dX0_holderOf_8 : decode cX0_holderOf 8 = .ok (.iload_n 1, 1) := by decide +kernel
theorem dX0_holderOf_9 : decode cX0_holderOf 9 = .ok (.iconst 4, 1) := by decide +kernel
theorem dX0_holderOf_10 : decode cX0_holderOf 10 = .ok (.imul, 1) := by decide +kernel
theorem dX0_holderOf_11 : decode cX0_holderOf 11 = .ok (.iload_n 2, 1) := by decide +kernel
theorem dX0_holderOf_12 : decode cX0_holderOf 12 = .ok (.iadd, 1) := by decide +kernel
theorem dX0_holderOf_13 : decode cX0_holderOf 13 = .ok (.invokevirtual 36, 3) := by decide +kernel
theorem dX0_holderOf_16 : decode cX0_holderOf 16 = .ok (.ifCond .eq 13, 3) := by decide +kernel
theorem dX0_holderOf_19 : decode cX0_holderOf 19 = .ok (.aload_n 0, 1) := by decide +kernel
theorem dX0_holderOf_20 : decode cX0_holderOf 20 = .ok (.iload_n 1, 1) := by decide +kernel
theorem dX0_holderOf_21 : decode cX0_holderOf 21 = .ok (.iconst 4, 1) := by decide +kernel
theorem dX0_holderOf_22 : decode cX0_holderOf 22 = .ok (.imul, 1) := by decide +kernel
theorem dX0_holderOf_23 : decode cX0_holderOf 23 = .ok (.iload_n 2, 1) := by decide +kernel
theorem dX0_holderOf_24 : decode cX0_holderOf 24 = .ok (.iadd, 1) := by decide +kernel
theorem dX0_holderOf_25 : decode cX0_holderOf 25 = .ok (.invokevirtual 50, 3) := by decide +kernel
theorem dX0_holderOf_28 : decode cX0_holderOf 28 = .ok (.ireturn, 1) := by decide +kernel
theorem dX0_holderOf_29 : decode cX0_holderOf 29 = .ok (.iinc 2 1, 3) := by decide +kernel
theorem dX0_holderOf_32 : decode cX0_holderOf 32 = .ok (.goto (-30), 3) := by decide +kernel
theorem dX0_holderOf_35 : decode cX0_holderOf 35 = .ok (.bipush (-6), 2) := by decide +kernel
theorem dX0_holderOf_37 : decode cX0_holderOf 37 = .ok (.ireturn, 1) := by decide +kernel
theorem dX0_blocksOf_0 : decode cX0_blocksOf 0 = .ok (.iconst 0, 1) := by decide +kernel
theorem dX0_blocksOf_1 : decode cX0_blocksOf 1 = .ok (.istore_n 2, 1) := by decide +kernel
theorem dX0_blocksOf_2 : decode cX0_blocksOf 2 = .ok (.iconst 0, 1) := by decide +kernel
theorem dX0_blocksOf_3 : decode cX0_blocksOf 3 = .ok (.istore_n 3, 1) := by decide +kernel
theorem dX0_blocksOf_4 : decode cX0_blocksOf 4 = .ok (.iload_n 3, 1) := by decide +kernel
theorem dX0_blocksOf_5 : decode cX0_blocksOf 5 = .ok (.iconst 4, 1) := by decide +kernel
theorem dX0_blocksOf_6 : decode cX0_blocksOf 6 = .ok (.if_icmp .ge 24, 3) := by decide +kernel
theorem dX0_blocksOf_9 : decode cX0_blocksOf 9 = .ok (.aload_n 0, 1) := by decide +kernel
theorem dX0_blocksOf_10 : decode cX0_blocksOf 10 = .ok (.iload_n 3, 1) := by decide +kernel
theorem dX0_blocksOf_11 : decode cX0_blocksOf 11 = .ok (.invokevirtual 53, 3) := by decide +kernel
theorem dX0_blocksOf_14 : decode cX0_blocksOf 14 = .ok (.iload_n 1, 1) := by decide +kernel
theorem dX0_blocksOf_15 : decode cX0_blocksOf 15 = .ok (.if_icmp .ne 9, 3) := by decide +kernel
theorem dX0_blocksOf_18 : decode cX0_blocksOf 18 = .ok (.iload_n 2, 1) := by decide +kernel
theorem dX0_blocksOf_19 : decode cX0_blocksOf 19 = .ok (.iconst 1, 1) := by decide +kernel
theorem dX0_blocksOf_20 : decode cX0_blocksOf 20 = .ok (.iload_n 3, 1) := by decide +kernel
theorem dX0_blocksOf_21 : decode cX0_blocksOf 21 = .ok (.ishl, 1) := by decide +kernel
theorem dX0_blocksOf_22 : decode cX0_blocksOf 22 = .ok (.ior, 1) := by decide +kernel
theorem dX0_blocksOf_23 : decode cX0_blocksOf 23 = .ok (.istore_n 2, 1) := by decide +kernel
theorem dX0_blocksOf_24 : decode cX0_blocksOf 24 = .ok (.iinc 3 1, 3) := by decide +kernel
theorem dX0_blocksOf_27 : decode cX0_blocksOf 27 = .ok (.goto (-23), 3) := by decide +kernel
theorem dX0_blocksOf_30 : decode cX0_blocksOf 30 = .ok (.iload_n 2, 1) := by decide +kernel
theorem dX0_blocksOf_31 : decode cX0_blocksOf 31 = .ok (.ireturn, 1) := by decide +kernel
theorem dX0_countFreeBlocks_0 : decode cX0_countFreeBlocks 0 = .ok (.aload_n 0, 1) := by decide +kernel
theorem dX0_countFreeBlocks_1 : decode cX0_countFreeBlocks 1 = .ok (.bipush (-6), 2) := by decide +kernel
theorem dX0_countFreeBlocks_3 : decode cX0_countFreeBlocks 3 = .ok (.invokevirtual 56, 3) := by decide +kernel
theorem dX0_countFreeBlocks_6 : decode cX0_countFreeBlocks 6 = .ok (.invokestatic 44, 3) := by decide +kernel
theorem dX0_countFreeBlocks_9 : decode cX0_countFreeBlocks 9 = .ok (.ireturn, 1) := by decide +kernel
theorem dX0_copyBindings_0 : decode cX0_copyBindings 0 = .ok (.aload_n 1, 1) := by decide +kernel
theorem dX0_copyBindings_1 : decode cX0_copyBindings 1 = .ok (.getfield 9, 3) := by decide +kernel
theorem dX0_copyBindings_4 : decode cX0_copyBindings 4 = .ok (.iconst 0, 1) := by decide +kernel
theorem dX0_copyBindings_5 : decode cX0_copyBindings 5 = .ok (.aload_n 0, 1) := by decide +kernel
theorem dX0_copyBindings_6 : decode cX0_copyBindings 6 = .ok (.getfield 9, 3) := by decide +kernel
theorem dX0_copyBindings_9 : decode cX0_copyBindings 9 = .ok (.iconst 0, 1) := by decide +kernel
theorem dX0_copyBindings_10 : decode cX0_copyBindings 10 = .ok (.bipush 16, 2) := by decide +kernel
theorem dX0_copyBindings_12 : decode cX0_copyBindings 12 = .ok (.invokestatic 59, 3) := by decide +kernel
theorem dX0_copyBindings_15 : decode cX0_copyBindings 15 = .ok (.aload_n 1, 1) := by decide +kernel
theorem dX0_copyBindings_16 : decode cX0_copyBindings 16 = .ok (.getfield 15, 3) := by decide +kernel
theorem dX0_copyBindings_19 : decode cX0_copyBindings 19 = .ok (.iconst 0, 1) := by decide +kernel
theorem dX0_copyBindings_20 : decode cX0_copyBindings 20 = .ok (.aload_n 0, 1) := by decide +kernel
theorem dX0_copyBindings_21 : decode cX0_copyBindings 21 = .ok (.getfield 15, 3) := by decide +kernel
theorem dX0_copyBindings_24 : decode cX0_copyBindings 24 = .ok (.iconst 0, 1) := by decide +kernel
theorem dX0_copyBindings_25 : decode cX0_copyBindings 25 = .ok (.bipush 16, 2) := by decide +kernel
theorem dX0_copyBindings_27 : decode cX0_copyBindings 27 = .ok (.invokestatic 59, 3) := by decide +kernel
theorem dX0_copyBindings_30 : decode cX0_copyBindings 30 = .ok (.aload_n 1, 1) := by decide +kernel
theorem dX0_copyBindings_31 : decode cX0_copyBindings 31 = .ok (.getfield 18, 3) := by decide +kernel
theorem dX0_copyBindings_34 : decode cX0_copyBindings 34 = .ok (.iconst 0, 1) := by decide +kernel
theorem dX0_copyBindings_35 : decode cX0_copyBindings 35 = .ok (.aload_n 0, 1) := by decide +kernel
theorem dX0_copyBindings_36 : decode cX0_copyBindings 36 = .ok (.getfield 18, 3) := by decide +kernel
theorem dX0_copyBindings_39 : decode cX0_copyBindings 39 = .ok (.iconst 0, 1) := by decide +kernel
theorem dX0_copyBindings_40 : decode cX0_copyBindings 40 = .ok (.bipush 16, 2) := by decide +kernel
theorem dX0_copyBindings_42 : decode cX0_copyBindings 42 = .ok (.invokestatic 59, 3) := by decide +kernel
theorem dX0_copyBindings_45 : decode cX0_copyBindings 45 = .ok (.aload_n 1, 1) := by decide +kernel
theorem dX0_copyBindings_46 : decode cX0_copyBindings 46 = .ok (.getfield 21, 3) := by decide +kernel
theorem dX0_copyBindings_49 : decode cX0_copyBindings 49 = .ok (.iconst 0, 1) := by decide +kernel
theorem dX0_copyBindings_50 : decode cX0_copyBindings 50 = .ok (.aload_n 0, 1) := by decide +kernel
theorem dX0_copyBindings_51 : decode cX0_copyBindings 51 = .ok (.getfield 21, 3) := by decide +kernel
theorem dX0_copyBindings_54 : decode cX0_copyBindings 54 = .ok (.iconst 0, 1) := by decide +kernel
theorem dX0_copyBindings_55 : decode cX0_copyBindings 55 = .ok (.bipush 16, 2) := by decide +kernel
theorem dX0_copyBindings_57 : decode cX0_copyBindings 57 = .ok (.invokestatic 59, 3) := by decide +kernel
theorem dX0_copyBindings_60 : decode cX0_copyBindings 60 = .ok (.aload_n 1, 1) := by decide +kernel
theorem dX0_copyBindings_61 : decode cX0_copyBindings 61 = .ok (.getfield 24, 3) := by decide +kernel
theorem dX0_copyBindings_64 : decode cX0_copyBindings 64 = .ok (.iconst 0, 1) := by decide +kernel
theorem dX0_copyBindings_65 : decode cX0_copyBindings 65 = .ok (.aload_n 0, 1) := by decide +kernel
theorem dX0_copyBindings_66 : decode cX0_copyBindings 66 = .ok (.getfield 24, 3) := by decide +kernel
theorem dX0_copyBindings_69 : decode cX0_copyBindings 69 = .ok (.iconst 0, 1) := by decide +kernel
theorem dX0_copyBindings_70 : decode cX0_copyBindings 70 = .ok (.bipush 16, 2) := by decide +kernel
theorem dX0_copyBindings_72 : decode cX0_copyBindings 72 = .ok (.invokestatic 59, 3) := by decide +kernel
theorem dX0_copyBindings_75 : decode cX0_copyBindings 75 = .ok (.aload_n 1, 1) := by decide +kernel
theorem dX0_copyBindings_76 : decode cX0_copyBindings 76 = .ok (.getfield 27, 3) := by decide +kernel
theorem dX0_copyBindings_79 : decode cX0_copyBindings 79 = .ok (.iconst 0, 1) := by decide +kernel
theorem dX0_copyBindings_80 : decode cX0_copyBindings 80 = .ok (.aload_n 0, 1) := by decide +kernel
theorem dX0_copyBindings_81 : decode cX0_copyBindings 81 = .ok (.getfield 27, 3) := by decide +kernel
theorem dX0_copyBindings_84 : decode cX0_copyBindings 84 = .ok (.iconst 0, 1) := by decide +kernel
theorem dX0_copyBindings_85 : decode cX0_copyBindings 85 = .ok (.bipush 80, 2) := by decide +kernel
theorem dX0_copyBindings_87 : decode cX0_copyBindings 87 = .ok (.invokestatic 59, 3) := by decide +kernel
theorem dX0_copyBindings_90 : decode cX0_copyBindings 90 = .ok (.return_, 1) := by decide +kernel
theorem dX2_init_0 : decode cX2_init 0 = .ok (.aload_n 0, 1) := by decide +kernel
theorem dX2_init_1 : decode cX2_init 1 = .ok (.invokespecial 3, 3) := by decide +kernel
theorem dX2_init_4 : decode cX2_init 4 = .ok (.aload_n 0, 1) := by decide +kernel
theorem dX2_init_5 : decode cX2_init 5 = .ok (.bipush 32, 2) := by decide +kernel
theorem dX2_init_7 : decode cX2_init 7 = .ok (.newarray .int, 2) := by decide +kernel
theorem dX2_init_9 : decode cX2_init 9 = .ok (.putfield 9, 3) := by decide +kernel
theorem dX2_init_12 : decode cX2_init 12 = .ok (.aload_n 0, 1) := by decide +kernel
theorem dX2_init_13 : decode cX2_init 13 = .ok (.bipush 32, 2) := by decide +kernel
theorem dX2_init_15 : decode cX2_init 15 = .ok (.newarray .int, 2) := by decide +kernel
theorem dX2_init_17 : decode cX2_init 17 = .ok (.putfield 15, 3) := by decide +kernel
theorem dX2_init_20 : decode cX2_init 20 = .ok (.aload_n 0, 1) := by decide +kernel
theorem dX2_init_21 : decode cX2_init 21 = .ok (.bipush 6, 2) := by decide +kernel
theorem dX2_init_23 : decode cX2_init 23 = .ok (.newarray .int, 2) := by decide +kernel
theorem dX2_init_25 : decode cX2_init 25 = .ok (.putfield 18, 3) := by decide +kernel
theorem dX2_init_28 : decode cX2_init 28 = .ok (.aload_n 0, 1) := by decide +kernel
theorem dX2_init_29 : decode cX2_init 29 = .ok (.bipush 6, 2) := by decide +kernel
theorem dX2_init_31 : decode cX2_init 31 = .ok (.newarray .int, 2) := by decide +kernel
theorem dX2_init_33 : decode cX2_init 33 = .ok (.putfield 21, 3) := by decide +kernel
theorem dX2_init_36 : decode cX2_init 36 = .ok (.aload_n 0, 1) := by decide +kernel
theorem dX2_init_37 : decode cX2_init 37 = .ok (.getfield 9, 3) := by decide +kernel
theorem dX2_init_40 : decode cX2_init 40 = .ok (.bipush (-6), 2) := by decide +kernel
theorem dX2_init_42 : decode cX2_init 42 = .ok (.invokestatic 24, 3) := by decide +kernel
theorem dX2_init_45 : decode cX2_init 45 = .ok (.aload_n 0, 1) := by decide +kernel
theorem dX2_init_46 : decode cX2_init 46 = .ok (.getfield 18, 3) := by decide +kernel
theorem dX2_init_49 : decode cX2_init 49 = .ok (.bipush (-6), 2) := by decide +kernel
theorem dX2_init_51 : decode cX2_init 51 = .ok (.invokestatic 24, 3) := by decide +kernel
theorem dX2_init_54 : decode cX2_init 54 = .ok (.return_, 1) := by decide +kernel
theorem dX2_isKnown_0 : decode cX2_isKnown 0 = .ok (.aload_n 0, 1) := by decide +kernel
theorem dX2_isKnown_1 : decode cX2_isKnown 1 = .ok (.getfield 9, 3) := by decide +kernel
theorem dX2_isKnown_4 : decode cX2_isKnown 4 = .ok (.iload_n 1, 1) := by decide +kernel
theorem dX2_isKnown_5 : decode cX2_isKnown 5 = .ok (.iaload, 1) := by decide +kernel
theorem dX2_isKnown_6 : decode cX2_isKnown 6 = .ok (.bipush (-6), 2) := by decide +kernel
theorem dX2_isKnown_8 : decode cX2_isKnown 8 = .ok (.if_icmp .eq 7, 3) := by decide +kernel
theorem dX2_isKnown_11 : decode cX2_isKnown 11 = .ok (.iconst 1, 1) := by decide +kernel
theorem dX2_isKnown_12 : decode cX2_isKnown 12 = .ok (.goto 4, 3) := by decide +kernel
theorem dX2_isKnown_15 : decode cX2_isKnown 15 = .ok (.iconst 0, 1) := by decide +kernel
theorem dX2_isKnown_16 : decode cX2_isKnown 16 = .ok (.ireturn, 1) := by decide +kernel
theorem dX2_know_0 : decode cX2_know 0 = .ok (.aload_n 0, 1) := by decide +kernel
theorem dX2_know_1 : decode cX2_know 1 = .ok (.getfield 9, 3) := by decide +kernel
theorem dX2_know_4 : decode cX2_know 4 = .ok (.iload_n 1, 1) := by decide +kernel
theorem dX2_know_5 : decode cX2_know 5 = .ok (.iload_n 2, 1) := by decide +kernel
theorem dX2_know_6 : decode cX2_know 6 = .ok (.iastore, 1) := by decide +kernel
theorem dX2_know_7 : decode cX2_know 7 = .ok (.aload_n 0, 1) := by decide +kernel
theorem dX2_know_8 : decode cX2_know 8 = .ok (.getfield 15, 3) := by decide +kernel
theorem dX2_know_11 : decode cX2_know 11 = .ok (.iload_n 1, 1) := by decide +kernel
theorem dX2_know_12 : decode cX2_know 12 = .ok (.iload_n 3, 1) := by decide +kernel
theorem dX2_know_13 : decode cX2_know 13 = .ok (.iastore, 1) := by decide +kernel
theorem dX2_know_14 : decode cX2_know 14 = .ok (.return_, 1) := by decide +kernel
theorem dX2_forget_0 : decode cX2_forget 0 = .ok (.aload_n 0, 1) := by decide +kernel
theorem dX2_forget_1 : decode cX2_forget 1 = .ok (.getfield 9, 3) := by decide +kernel
theorem dX2_forget_4 : decode cX2_forget 4 = .ok (.iload_n 1, 1) := by decide +kernel
theorem dX2_forget_5 : decode cX2_forget 5 = .ok (.bipush (-6), 2) := by decide +kernel
theorem dX2_forget_7 : decode cX2_forget 7 = .ok (.iastore, 1) := by decide +kernel
theorem dX2_forget_8 : decode cX2_forget 8 = .ok (.return_, 1) := by decide +kernel
theorem dX2_forgetAllOf_0 : decode cX2_forgetAllOf 0 = .ok (.iconst 0, 1) := by decide +kernel
theorem dX2_forgetAllOf_1 : decode cX2_forgetAllOf 1 = .ok (.istore_n 2, 1) := by decide +kernel
theorem dX2_forgetAllOf_2 : decode cX2_forgetAllOf 2 = .ok (.iload_n 2, 1) := by decide +kernel
theorem dX2_forgetAllOf_3 : decode cX2_forgetAllOf 3 = .ok (.bipush 32, 2) := by decide +kernel
theorem dX2_forgetAllOf_5 : decode cX2_forgetAllOf 5 = .ok (.if_icmp .ge 24, 3) := by decide +kernel
theorem dX2_forgetAllOf_8 : decode cX2_forgetAllOf 8 = .ok (.aload_n 0, 1) := by decide +kernel
theorem dX2_forgetAllOf_9 : decode cX2_forgetAllOf 9 = .ok (.getfield 9, 3) := by decide +kernel
theorem dX2_forgetAllOf_12 : decode cX2_forgetAllOf 12 = .ok (.iload_n 2, 1) := by decide +kernel
theorem dX2_forgetAllOf_13 : decode cX2_forgetAllOf 13 = .ok (.iaload, 1) := by decide +kernel
theorem dX2_forgetAllOf_14 : decode cX2_forgetAllOf 14 = .ok (.iload_n 1, 1) := by decide +kernel
theorem dX2_forgetAllOf_15 : decode cX2_forgetAllOf 15 = .ok (.if_icmp .ne 8, 3) := by decide +kernel
theorem dX2_forgetAllOf_18 : decode cX2_forgetAllOf 18 = .ok (.aload_n 0, 1) := by decide +kernel
theorem dX2_forgetAllOf_19 : decode cX2_forgetAllOf 19 = .ok (.iload_n 2, 1) := by decide +kernel
theorem dX2_forgetAllOf_20 : decode cX2_forgetAllOf 20 = .ok (.invokevirtual 30, 3) := by decide +kernel
theorem dX2_forgetAllOf_23 : decode cX2_forgetAllOf 23 = .ok (.iinc 2 1, 3) := by decide +kernel
theorem dX2_forgetAllOf_26 : decode cX2_forgetAllOf 26 = .ok (.goto (-24), 3) := by decide +kernel
theorem dX2_forgetAllOf_29 : decode cX2_forgetAllOf 29 = .ok (.return_, 1) := by decide +kernel
theorem dX2_hold_0 : decode cX2_hold 0 = .ok (.iload_n 1, 1) := by decide +kernel
theorem dX2_hold_1 : decode cX2_hold 1 = .ok (.bipush 8, 2) := by decide +kernel
theorem dX2_hold_3 : decode cX2_hold 3 = .ok (.imul, 1) := by decide +kernel
theorem dX2_hold_4 : decode cX2_hold 4 = .ok (.iload_n 2, 1) := by decide +kernel
theorem dX2_hold_5 : decode cX2_hold 5 = .ok (.iadd, 1) := by decide +kernel
theorem dX2_hold_6 : decode cX2_hold 6 = .ok (.istore 4, 2) := by decide +kernel
theorem dX2_hold_8 : decode cX2_hold 8 = .ok (.aload_n 0, 1) := by decide +kernel
theorem dX2_hold_9 : decode cX2_hold 9 = .ok (.iload 4, 2) := by decide +kernel
theorem dX2_hold_11 : decode cX2_hold 11 = .ok (.invokevirtual 34, 3) := by decide +kernel
theorem dX2_hold_14 : decode cX2_hold 14 = .ok (.bipush (-6), 2) := by decide +kernel
theorem dX2_hold_16 : decode cX2_hold 16 = .ok (.if_icmp .eq 5, 3) := by decide +kernel
theorem dX2_hold_19 : decode cX2_hold 19 = .ok (.iconst 0, 1) := by decide +kernel
theorem dX2_hold_20 : decode cX2_hold 20 = .ok (.ireturn, 1) := by decide +kernel
theorem dX2_hold_21 : decode cX2_hold 21 = .ok (.aload_n 0, 1) := by decide +kernel
theorem dX2_hold_22 : decode cX2_hold 22 = .ok (.bipush (-6), 2) := by decide +kernel
theorem dX2_hold_24 : decode cX2_hold 24 = .ok (.invokevirtual 34, 3) := by decide +kernel
theorem dX2_hold_27 : decode cX2_hold 27 = .ok (.istore 5, 2) := by decide +kernel
theorem dX2_hold_29 : decode cX2_hold 29 = .ok (.iload 5, 2) := by decide +kernel
theorem dX2_hold_31 : decode cX2_hold 31 = .ok (.bipush (-6), 2) := by decide +kernel
theorem dX2_hold_33 : decode cX2_hold 33 = .ok (.if_icmp .ne 6, 3) := by decide +kernel
theorem dX2_hold_36 : decode cX2_hold 36 = .ok (.bipush (-4), 2) := by decide +kernel
theorem dX2_hold_38 : decode cX2_hold 38 = .ok (.ireturn, 1) := by decide +kernel
theorem dX2_hold_39 : decode cX2_hold 39 = .ok (.aload_n 0, 1) := by decide +kernel
theorem dX2_hold_40 : decode cX2_hold 40 = .ok (.getfield 18, 3) := by decide +kernel
theorem dX2_hold_43 : decode cX2_hold 43 = .ok (.iload 5, 2) := by decide +kernel
theorem dX2_hold_45 : decode cX2_hold 45 = .ok (.iload 4, 2) := by decide +kernel
theorem dX2_hold_47 : decode cX2_hold 47 = .ok (.iastore, 1) := by decide +kernel
theorem dX2_hold_48 : decode cX2_hold 48 = .ok (.aload_n 0, 1) := by decide +kernel
theorem dX2_hold_49 : decode cX2_hold 49 = .ok (.getfield 21, 3) := by decide +kernel
theorem dX2_hold_52 : decode cX2_hold 52 = .ok (.iload 5, 2) := by decide +kernel
theorem dX2_hold_54 : decode cX2_hold 54 = .ok (.iload_n 3, 1) := by decide +kernel
theorem dX2_hold_55 : decode cX2_hold 55 = .ok (.iastore, 1) := by decide +kernel
theorem dX2_hold_56 : decode cX2_hold 56 = .ok (.iconst 0, 1) := by decide +kernel
theorem dX2_hold_57 : decode cX2_hold 57 = .ok (.ireturn, 1) := by decide +kernel
theorem dX2_placeOf_0 : decode cX2_placeOf 0 = .ok (.iconst 0, 1) := by decide +kernel
theorem dX2_placeOf_1 : decode cX2_placeOf 1 = .ok (.istore_n 2, 1) := by decide +kernel
theorem dX2_placeOf_2 : decode cX2_placeOf 2 = .ok (.iload_n 2, 1) := by decide +kernel
theorem dX2_placeOf_3 : decode cX2_placeOf 3 = .ok (.bipush 6, 2) := by decide +kernel
theorem dX2_placeOf_5 : decode cX2_placeOf 5 = .ok (.if_icmp .ge 21, 3) := by decide +kernel
theorem dX2_placeOf_8 : decode cX2_placeOf 8 = .ok (.aload_n 0, 1) := by decide +kernel
theorem dX2_placeOf_9 : decode cX2_placeOf 9 = .ok (.getfield 18, 3) := by decide +kernel
theorem dX2_placeOf_12 : decode cX2_placeOf 12 = .ok (.iload_n 2, 1) := by decide +kernel
theorem dX2_placeOf_13 : decode cX2_placeOf 13 = .ok (.iaload, 1) := by decide +kernel
theorem dX2_placeOf_14 : decode cX2_placeOf 14 = .ok (.iload_n 1, 1) := by decide +kernel
theorem dX2_placeOf_15 : decode cX2_placeOf 15 = .ok (.if_icmp .ne 5, 3) := by decide +kernel
theorem dX2_placeOf_18 : decode cX2_placeOf 18 = .ok (.iload_n 2, 1) := by decide +kernel
theorem dX2_placeOf_19 : decode cX2_placeOf 19 = .ok (.ireturn, 1) := by decide +kernel
theorem dX2_placeOf_20 : decode cX2_placeOf 20 = .ok (.iinc 2 1, 3) := by decide +kernel
theorem dX2_placeOf_23 : decode cX2_placeOf 23 = .ok (.goto (-21), 3) := by decide +kernel
theorem dX2_placeOf_26 : decode cX2_placeOf 26 = .ok (.bipush (-6), 2) := by decide +kernel
theorem dX2_placeOf_28 : decode cX2_placeOf 28 = .ok (.ireturn, 1) := by decide +kernel
theorem dX2_releaseHeld_0 : decode cX2_releaseHeld 0 = .ok (.iconst 0, 1) := by decide +kernel
theorem dX2_releaseHeld_1 : decode cX2_releaseHeld 1 = .ok (.istore_n 2, 1) := by decide +kernel
theorem dX2_releaseHeld_2 : decode cX2_releaseHeld 2 = .ok (.iconst 0, 1) := by decide +kernel
theorem dX2_releaseHeld_3 : decode cX2_releaseHeld 3 = .ok (.istore_n 3, 1) := by decide +kernel
theorem dX2_releaseHeld_4 : decode cX2_releaseHeld 4 = .ok (.iload_n 3, 1) := by decide +kernel
theorem dX2_releaseHeld_5 : decode cX2_releaseHeld 5 = .ok (.bipush 6, 2) := by decide +kernel
theorem dX2_releaseHeld_7 : decode cX2_releaseHeld 7 = .ok (.if_icmp .ge 44, 3) := by decide +kernel
theorem dX2_releaseHeld_10 : decode cX2_releaseHeld 10 = .ok (.aload_n 0, 1) := by decide +kernel
theorem dX2_releaseHeld_11 : decode cX2_releaseHeld 11 = .ok (.getfield 18, 3) := by decide +kernel
theorem dX2_releaseHeld_14 : decode cX2_releaseHeld 14 = .ok (.iload_n 3, 1) := by decide +kernel
theorem dX2_releaseHeld_15 : decode cX2_releaseHeld 15 = .ok (.iaload, 1) := by decide +kernel
theorem dX2_releaseHeld_16 : decode cX2_releaseHeld 16 = .ok (.bipush (-6), 2) := by decide +kernel
theorem dX2_releaseHeld_18 : decode cX2_releaseHeld 18 = .ok (.if_icmp .eq 27, 3) := by decide +kernel
theorem dX2_releaseHeld_21 : decode cX2_releaseHeld 21 = .ok (.aload_n 0, 1) := by decide +kernel
theorem dX2_releaseHeld_22 : decode cX2_releaseHeld 22 = .ok (.getfield 18, 3) := by decide +kernel
theorem dX2_releaseHeld_25 : decode cX2_releaseHeld 25 = .ok (.iload_n 3, 1) := by decide +kernel
theorem dX2_releaseHeld_26 : decode cX2_releaseHeld 26 = .ok (.iaload, 1) := by decide +kernel
theorem dX2_releaseHeld_27 : decode cX2_releaseHeld 27 = .ok (.bipush 8, 2) := by decide +kernel
theorem dX2_releaseHeld_29 : decode cX2_releaseHeld 29 = .ok (.idiv, 1) := by decide +kernel
theorem dX2_releaseHeld_30 : decode cX2_releaseHeld 30 = .ok (.iload_n 1, 1) := by decide +kernel
theorem dX2_releaseHeld_31 : decode cX2_releaseHeld 31 = .ok (.if_icmp .ne 14, 3) := by decide +kernel
theorem dX2_releaseHeld_34 : decode cX2_releaseHeld 34 = .ok (.aload_n 0, 1) := by decide +kernel
theorem dX2_releaseHeld_35 : decode cX2_releaseHeld 35 = .ok (.getfield 18, 3) := by decide +kernel
theorem dX2_releaseHeld_38 : decode cX2_releaseHeld 38 = .ok (.iload_n 3, 1) := by decide +kernel
theorem dX2_releaseHeld_39 : decode cX2_releaseHeld 39 = .ok (.bipush (-6), 2) := by decide +kernel
theorem dX2_releaseHeld_41 : decode cX2_releaseHeld 41 = .ok (.iastore, 1) := by decide +kernel
theorem dX2_releaseHeld_42 : decode cX2_releaseHeld 42 = .ok (.iinc 2 1, 3) := by decide +kernel
theorem dX2_releaseHeld_45 : decode cX2_releaseHeld 45 = .ok (.iinc 3 1, 3) := by decide +kernel
theorem dX2_releaseHeld_48 : decode cX2_releaseHeld 48 = .ok (.goto (-44), 3) := by decide +kernel
theorem dX2_releaseHeld_51 : decode cX2_releaseHeld 51 = .ok (.iload_n 2, 1) := by decide +kernel
theorem dX2_releaseHeld_52 : decode cX2_releaseHeld 52 = .ok (.ireturn, 1) := by decide +kernel
theorem dX2_endOld_0 : decode cX2_endOld 0 = .ok (.iconst 0, 1) := by decide +kernel
theorem dX2_endOld_1 : decode cX2_endOld 1 = .ok (.istore_n 2, 1) := by decide +kernel
theorem dX2_endOld_2 : decode cX2_endOld 2 = .ok (.iload_n 2, 1) := by decide +kernel
theorem dX2_endOld_3 : decode cX2_endOld 3 = .ok (.bipush 32, 2) := by decide +kernel
theorem dX2_endOld_5 : decode cX2_endOld 5 = .ok (.if_icmp .ge 34, 3) := by decide +kernel
theorem dX2_endOld_8 : decode cX2_endOld 8 = .ok (.aload_n 0, 1) := by decide +kernel
theorem dX2_endOld_9 : decode cX2_endOld 9 = .ok (.iload_n 2, 1) := by decide +kernel
theorem dX2_endOld_10 : decode cX2_endOld 10 = .ok (.invokevirtual 38, 3) := by decide +kernel
theorem dX2_endOld_13 : decode cX2_endOld 13 = .ok (.ifCond .eq 20, 3) := by decide +kernel
theorem dX2_endOld_16 : decode cX2_endOld 16 = .ok (.iload_n 1, 1) := by decide +kernel
theorem dX2_endOld_17 : decode cX2_endOld 17 = .ok (.aload_n 0, 1) := by decide +kernel
theorem dX2_endOld_18 : decode cX2_endOld 18 = .ok (.getfield 15, 3) := by decide +kernel
theorem dX2_endOld_21 : decode cX2_endOld 21 = .ok (.iload_n 2, 1) := by decide +kernel
theorem dX2_endOld_22 : decode cX2_endOld 22 = .ok (.iaload, 1) := by decide +kernel
theorem dX2_endOld_23 : decode cX2_endOld 23 = .ok (.isub, 1) := by decide +kernel
theorem dX2_endOld_24 : decode cX2_endOld 24 = .ok (.iconst 5, 1) := by decide +kernel
theorem dX2_endOld_25 : decode cX2_endOld 25 = .ok (.if_icmp .lt 8, 3) := by decide +kernel
theorem dX2_endOld_28 : decode cX2_endOld 28 = .ok (.aload_n 0, 1) := by decide +kernel
theorem dX2_endOld_29 : decode cX2_endOld 29 = .ok (.iload_n 2, 1) := by decide +kernel
theorem dX2_endOld_30 : decode cX2_endOld 30 = .ok (.invokevirtual 30, 3) := by decide +kernel
theorem dX2_endOld_33 : decode cX2_endOld 33 = .ok (.iinc 2 1, 3) := by decide +kernel
theorem dX2_endOld_36 : decode cX2_endOld 36 = .ok (.goto (-34), 3) := by decide +kernel
theorem dX2_endOld_39 : decode cX2_endOld 39 = .ok (.iconst 0, 1) := by decide +kernel
theorem dX2_endOld_40 : decode cX2_endOld 40 = .ok (.istore_n 2, 1) := by decide +kernel
theorem dX2_endOld_41 : decode cX2_endOld 41 = .ok (.iload_n 2, 1) := by decide +kernel
theorem dX2_endOld_42 : decode cX2_endOld 42 = .ok (.bipush 6, 2) := by decide +kernel
theorem dX2_endOld_44 : decode cX2_endOld 44 = .ok (.if_icmp .ge 40, 3) := by decide +kernel
theorem dX2_endOld_47 : decode cX2_endOld 47 = .ok (.aload_n 0, 1) := by decide +kernel
theorem dX2_endOld_48 : decode cX2_endOld 48 = .ok (.getfield 18, 3) := by decide +kernel
theorem dX2_endOld_51 : decode cX2_endOld 51 = .ok (.iload_n 2, 1) := by decide +kernel
theorem dX2_endOld_52 : decode cX2_endOld 52 = .ok (.iaload, 1) := by decide +kernel
theorem dX2_endOld_53 : decode cX2_endOld 53 = .ok (.bipush (-6), 2) := by decide +kernel
theorem dX2_endOld_55 : decode cX2_endOld 55 = .ok (.if_icmp .eq 23, 3) := by decide +kernel
theorem dX2_endOld_58 : decode cX2_endOld 58 = .ok (.iload_n 1, 1) := by decide +kernel
theorem dX2_endOld_59 : decode cX2_endOld 59 = .ok (.aload_n 0, 1) := by decide +kernel
theorem dX2_endOld_60 : decode cX2_endOld 60 = .ok (.getfield 21, 3) := by decide +kernel
theorem dX2_endOld_63 : decode cX2_endOld 63 = .ok (.iload_n 2, 1) := by decide +kernel
theorem dX2_endOld_64 : decode cX2_endOld 64 = .ok (.iaload, 1) := by decide +kernel
theorem dX2_endOld_65 : decode cX2_endOld 65 = .ok (.isub, 1) := by decide +kernel
theorem dX2_endOld_66 : decode cX2_endOld 66 = .ok (.iconst 5, 1) := by decide +kernel
theorem dX2_endOld_67 : decode cX2_endOld 67 = .ok (.if_icmp .lt 11, 3) := by decide +kernel
theorem dX2_endOld_70 : decode cX2_endOld 70 = .ok (.aload_n 0, 1) := by decide +kernel
theorem dX2_endOld_71 : decode cX2_endOld 71 = .ok (.getfield 18, 3) := by decide +kernel
theorem dX2_endOld_74 : decode cX2_endOld 74 = .ok (.iload_n 2, 1) := by decide +kernel
theorem dX2_endOld_75 : decode cX2_endOld 75 = .ok (.bipush (-6), 2) := by decide +kernel
theorem dX2_endOld_77 : decode cX2_endOld 77 = .ok (.iastore, 1) := by decide +kernel
theorem dX2_endOld_78 : decode cX2_endOld 78 = .ok (.iinc 2 1, 3) := by decide +kernel
theorem dX2_endOld_81 : decode cX2_endOld 81 = .ok (.goto (-40), 3) := by decide +kernel
theorem dX2_endOld_84 : decode cX2_endOld 84 = .ok (.return_, 1) := by decide +kernel
theorem dX2_countKnown_0 : decode cX2_countKnown 0 = .ok (.iconst 0, 1) := by decide +kernel
theorem dX2_countKnown_1 : decode cX2_countKnown 1 = .ok (.istore_n 1, 1) := by decide +kernel
theorem dX2_countKnown_2 : decode cX2_countKnown 2 = .ok (.iconst 0, 1) := by decide +kernel
theorem dX2_countKnown_3 : decode cX2_countKnown 3 = .ok (.istore_n 2, 1) := by decide +kernel
theorem dX2_countKnown_4 : decode cX2_countKnown 4 = .ok (.iload_n 2, 1) := by decide +kernel
theorem dX2_countKnown_5 : decode cX2_countKnown 5 = .ok (.bipush 32, 2) := by decide +kernel
theorem dX2_countKnown_7 : decode cX2_countKnown 7 = .ok (.if_icmp .ge 20, 3) := by decide +kernel
theorem dX2_countKnown_10 : decode cX2_countKnown 10 = .ok (.aload_n 0, 1) := by decide +kernel
theorem dX2_countKnown_11 : decode cX2_countKnown 11 = .ok (.iload_n 2, 1) := by decide +kernel
theorem dX2_countKnown_12 : decode cX2_countKnown 12 = .ok (.invokevirtual 38, 3) := by decide +kernel
theorem dX2_countKnown_15 : decode cX2_countKnown 15 = .ok (.ifCond .eq 6, 3) := by decide +kernel
theorem dX2_countKnown_18 : decode cX2_countKnown 18 = .ok (.iinc 1 1, 3) := by decide +kernel
theorem dX2_countKnown_21 : decode cX2_countKnown 21 = .ok (.iinc 2 1, 3) := by decide +kernel
theorem dX2_countKnown_24 : decode cX2_countKnown 24 = .ok (.goto (-20), 3) := by decide +kernel
theorem dX2_countKnown_27 : decode cX2_countKnown 27 = .ok (.iload_n 1, 1) := by decide +kernel
theorem dX2_countKnown_28 : decode cX2_countKnown 28 = .ok (.ireturn, 1) := by decide +kernel
theorem dX2_countHeld_0 : decode cX2_countHeld 0 = .ok (.iconst 0, 1) := by decide +kernel
theorem dX2_countHeld_1 : decode cX2_countHeld 1 = .ok (.istore_n 1, 1) := by decide +kernel
theorem dX2_countHeld_2 : decode cX2_countHeld 2 = .ok (.iconst 0, 1) := by decide +kernel
theorem dX2_countHeld_3 : decode cX2_countHeld 3 = .ok (.istore_n 2, 1) := by decide +kernel
theorem dX2_countHeld_4 : decode cX2_countHeld 4 = .ok (.iload_n 2, 1) := by decide +kernel
theorem dX2_countHeld_5 : decode cX2_countHeld 5 = .ok (.bipush 6, 2) := by decide +kernel
theorem dX2_countHeld_7 : decode cX2_countHeld 7 = .ok (.if_icmp .ge 23, 3) := by decide +kernel
theorem dX2_countHeld_10 : decode cX2_countHeld 10 = .ok (.aload_n 0, 1) := by decide +kernel
theorem dX2_countHeld_11 : decode cX2_countHeld 11 = .ok (.getfield 18, 3) := by decide +kernel
theorem dX2_countHeld_14 : decode cX2_countHeld 14 = .ok (.iload_n 2, 1) := by decide +kernel
theorem dX2_countHeld_15 : decode cX2_countHeld 15 = .ok (.iaload, 1) := by decide +kernel
theorem dX2_countHeld_16 : decode cX2_countHeld 16 = .ok (.bipush (-6), 2) := by decide +kernel
theorem dX2_countHeld_18 : decode cX2_countHeld 18 = .ok (.if_icmp .eq 6, 3) := by decide +kernel
theorem dX2_countHeld_21 : decode cX2_countHeld 21 = .ok (.iinc 1 1, 3) := by decide +kernel
theorem dX2_countHeld_24 : decode cX2_countHeld 24 = .ok (.iinc 2 1, 3) := by decide +kernel
theorem dX2_countHeld_27 : decode cX2_countHeld 27 = .ok (.goto (-23), 3) := by decide +kernel
theorem dX2_countHeld_30 : decode cX2_countHeld 30 = .ok (.iload_n 1, 1) := by decide +kernel
theorem dX2_countHeld_31 : decode cX2_countHeld 31 = .ok (.ireturn, 1) := by decide +kernel
theorem dX2_copyPackets_0 : decode cX2_copyPackets 0 = .ok (.aload_n 1, 1) := by decide +kernel
theorem dX2_copyPackets_1 : decode cX2_copyPackets 1 = .ok (.getfield 9, 3) := by decide +kernel
theorem dX2_copyPackets_4 : decode cX2_copyPackets 4 = .ok (.iconst 0, 1) := by decide +kernel
theorem dX2_copyPackets_5 : decode cX2_copyPackets 5 = .ok (.aload_n 0, 1) := by decide +kernel
theorem dX2_copyPackets_6 : decode cX2_copyPackets 6 = .ok (.getfield 9, 3) := by decide +kernel
theorem dX2_copyPackets_9 : decode cX2_copyPackets 9 = .ok (.iconst 0, 1) := by decide +kernel
theorem dX2_copyPackets_10 : decode cX2_copyPackets 10 = .ok (.bipush 32, 2) := by decide +kernel
theorem dX2_copyPackets_12 : decode cX2_copyPackets 12 = .ok (.invokestatic 42, 3) := by decide +kernel
theorem dX2_copyPackets_15 : decode cX2_copyPackets 15 = .ok (.aload_n 1, 1) := by decide +kernel
theorem dX2_copyPackets_16 : decode cX2_copyPackets 16 = .ok (.getfield 15, 3) := by decide +kernel
theorem dX2_copyPackets_19 : decode cX2_copyPackets 19 = .ok (.iconst 0, 1) := by decide +kernel
theorem dX2_copyPackets_20 : decode cX2_copyPackets 20 = .ok (.aload_n 0, 1) := by decide +kernel
theorem dX2_copyPackets_21 : decode cX2_copyPackets 21 = .ok (.getfield 15, 3) := by decide +kernel
theorem dX2_copyPackets_24 : decode cX2_copyPackets 24 = .ok (.iconst 0, 1) := by decide +kernel
theorem dX2_copyPackets_25 : decode cX2_copyPackets 25 = .ok (.bipush 32, 2) := by decide +kernel
theorem dX2_copyPackets_27 : decode cX2_copyPackets 27 = .ok (.invokestatic 42, 3) := by decide +kernel
theorem dX2_copyPackets_30 : decode cX2_copyPackets 30 = .ok (.aload_n 1, 1) := by decide +kernel
theorem dX2_copyPackets_31 : decode cX2_copyPackets 31 = .ok (.getfield 18, 3) := by decide +kernel
theorem dX2_copyPackets_34 : decode cX2_copyPackets 34 = .ok (.iconst 0, 1) := by decide +kernel
theorem dX2_copyPackets_35 : decode cX2_copyPackets 35 = .ok (.aload_n 0, 1) := by decide +kernel
theorem dX2_copyPackets_36 : decode cX2_copyPackets 36 = .ok (.getfield 18, 3) := by decide +kernel
theorem dX2_copyPackets_39 : decode cX2_copyPackets 39 = .ok (.iconst 0, 1) := by decide +kernel
theorem dX2_copyPackets_40 : decode cX2_copyPackets 40 = .ok (.bipush 6, 2) := by decide +kernel
theorem dX2_copyPackets_42 : decode cX2_copyPackets 42 = .ok (.invokestatic 42, 3) := by decide +kernel
theorem dX2_copyPackets_45 : decode cX2_copyPackets 45 = .ok (.aload_n 1, 1) := by decide +kernel
theorem dX2_copyPackets_46 : decode cX2_copyPackets 46 = .ok (.getfield 21, 3) := by decide +kernel
theorem dX2_copyPackets_49 : decode cX2_copyPackets 49 = .ok (.iconst 0, 1) := by decide +kernel
theorem dX2_copyPackets_50 : decode cX2_copyPackets 50 = .ok (.aload_n 0, 1) := by decide +kernel
theorem dX2_copyPackets_51 : decode cX2_copyPackets 51 = .ok (.getfield 21, 3) := by decide +kernel
theorem dX2_copyPackets_54 : decode cX2_copyPackets 54 = .ok (.iconst 0, 1) := by decide +kernel
theorem dX2_copyPackets_55 : decode cX2_copyPackets 55 = .ok (.bipush 6, 2) := by decide +kernel
theorem dX2_copyPackets_57 : decode cX2_copyPackets 57 = .ok (.invokestatic 42, 3) := by decide +kernel
theorem dX2_copyPackets_60 : decode cX2_copyPackets 60 = .ok (.return_, 1) := by decide +kernel
theorem dJ6_bitCount_0f7a4_0 : decode cJ6_bitCount_0f7a4 0 = .ok (.iload_n 0, 1) := by decide +kernel
theorem dJ6_bitCount_0f7a4_1 : decode cJ6_bitCount_0f7a4 1 = .ok (.iload_n 0, 1) := by decide +kernel
theorem dJ6_bitCount_0f7a4_2 : decode cJ6_bitCount_0f7a4 2 = .ok (.iconst 1, 1) := by decide +kernel
theorem dJ6_bitCount_0f7a4_3 : decode cJ6_bitCount_0f7a4 3 = .ok (.iushr, 1) := by decide +kernel
theorem dJ6_bitCount_0f7a4_4 : decode cJ6_bitCount_0f7a4 4 = .ok (.ldc_w 265, 3) := by decide +kernel
theorem dJ6_bitCount_0f7a4_7 : decode cJ6_bitCount_0f7a4 7 = .ok (.iand, 1) := by decide +kernel
theorem dJ6_bitCount_0f7a4_8 : decode cJ6_bitCount_0f7a4 8 = .ok (.isub, 1) := by decide +kernel
theorem dJ6_bitCount_0f7a4_9 : decode cJ6_bitCount_0f7a4 9 = .ok (.istore_n 0, 1) := by decide +kernel
theorem dJ6_bitCount_0f7a4_10 : decode cJ6_bitCount_0f7a4 10 = .ok (.iload_n 0, 1) := by decide +kernel
theorem dJ6_bitCount_0f7a4_11 : decode cJ6_bitCount_0f7a4 11 = .ok (.ldc_w 266, 3) := by decide +kernel
theorem dJ6_bitCount_0f7a4_14 : decode cJ6_bitCount_0f7a4 14 = .ok (.iand, 1) := by decide +kernel
theorem dJ6_bitCount_0f7a4_15 : decode cJ6_bitCount_0f7a4 15 = .ok (.iload_n 0, 1) := by decide +kernel
theorem dJ6_bitCount_0f7a4_16 : decode cJ6_bitCount_0f7a4 16 = .ok (.iconst 2, 1) := by decide +kernel
theorem dJ6_bitCount_0f7a4_17 : decode cJ6_bitCount_0f7a4 17 = .ok (.iushr, 1) := by decide +kernel
theorem dJ6_bitCount_0f7a4_18 : decode cJ6_bitCount_0f7a4 18 = .ok (.ldc_w 266, 3) := by decide +kernel
theorem dJ6_bitCount_0f7a4_21 : decode cJ6_bitCount_0f7a4 21 = .ok (.iand, 1) := by decide +kernel
theorem dJ6_bitCount_0f7a4_22 : decode cJ6_bitCount_0f7a4 22 = .ok (.iadd, 1) := by decide +kernel
theorem dJ6_bitCount_0f7a4_23 : decode cJ6_bitCount_0f7a4 23 = .ok (.istore_n 0, 1) := by decide +kernel
theorem dJ6_bitCount_0f7a4_24 : decode cJ6_bitCount_0f7a4 24 = .ok (.iload_n 0, 1) := by decide +kernel
theorem dJ6_bitCount_0f7a4_25 : decode cJ6_bitCount_0f7a4 25 = .ok (.iload_n 0, 1) := by decide +kernel
theorem dJ6_bitCount_0f7a4_26 : decode cJ6_bitCount_0f7a4 26 = .ok (.iconst 4, 1) := by decide +kernel
theorem dJ6_bitCount_0f7a4_27 : decode cJ6_bitCount_0f7a4 27 = .ok (.iushr, 1) := by decide +kernel
theorem dJ6_bitCount_0f7a4_28 : decode cJ6_bitCount_0f7a4 28 = .ok (.iadd, 1) := by decide +kernel
theorem dJ6_bitCount_0f7a4_29 : decode cJ6_bitCount_0f7a4 29 = .ok (.ldc_w 267, 3) := by decide +kernel
theorem dJ6_bitCount_0f7a4_32 : decode cJ6_bitCount_0f7a4 32 = .ok (.iand, 1) := by decide +kernel
theorem dJ6_bitCount_0f7a4_33 : decode cJ6_bitCount_0f7a4 33 = .ok (.istore_n 0, 1) := by decide +kernel
theorem dJ6_bitCount_0f7a4_34 : decode cJ6_bitCount_0f7a4 34 = .ok (.iload_n 0, 1) := by decide +kernel
theorem dJ6_bitCount_0f7a4_35 : decode cJ6_bitCount_0f7a4 35 = .ok (.iload_n 0, 1) := by decide +kernel
theorem dJ6_bitCount_0f7a4_36 : decode cJ6_bitCount_0f7a4 36 = .ok (.bipush 8, 2) := by decide +kernel
theorem dJ6_bitCount_0f7a4_38 : decode cJ6_bitCount_0f7a4 38 = .ok (.iushr, 1) := by decide +kernel
theorem dJ6_bitCount_0f7a4_39 : decode cJ6_bitCount_0f7a4 39 = .ok (.iadd, 1) := by decide +kernel
theorem dJ6_bitCount_0f7a4_40 : decode cJ6_bitCount_0f7a4 40 = .ok (.istore_n 0, 1) := by decide +kernel
theorem dJ6_bitCount_0f7a4_41 : decode cJ6_bitCount_0f7a4 41 = .ok (.iload_n 0, 1) := by decide +kernel
theorem dJ6_bitCount_0f7a4_42 : decode cJ6_bitCount_0f7a4 42 = .ok (.iload_n 0, 1) := by decide +kernel
theorem dJ6_bitCount_0f7a4_43 : decode cJ6_bitCount_0f7a4 43 = .ok (.bipush 16, 2) := by decide +kernel
theorem dJ6_bitCount_0f7a4_45 : decode cJ6_bitCount_0f7a4 45 = .ok (.iushr, 1) := by decide +kernel
theorem dJ6_bitCount_0f7a4_46 : decode cJ6_bitCount_0f7a4 46 = .ok (.iadd, 1) := by decide +kernel
theorem dJ6_bitCount_0f7a4_47 : decode cJ6_bitCount_0f7a4 47 = .ok (.istore_n 0, 1) := by decide +kernel
theorem dJ6_bitCount_0f7a4_48 : decode cJ6_bitCount_0f7a4 48 = .ok (.iload_n 0, 1) := by decide +kernel
theorem dJ6_bitCount_0f7a4_49 : decode cJ6_bitCount_0f7a4 49 = .ok (.bipush 63, 2) := by decide +kernel
theorem dJ6_bitCount_0f7a4_51 : decode cJ6_bitCount_0f7a4 51 = .ok (.iand, 1) := by decide +kernel
theorem dJ6_bitCount_0f7a4_52 : decode cJ6_bitCount_0f7a4 52 = .ok (.ireturn, 1) := by decide +kernel
theorem dJ7_fill_53178_0 : decode cJ7_fill_53178 0 = .ok (.iconst 0, 1) := by decide +kernel
theorem dJ7_fill_53178_1 : decode cJ7_fill_53178 1 = .ok (.istore_n 2, 1) := by decide +kernel
theorem dJ7_fill_53178_2 : decode cJ7_fill_53178 2 = .ok (.aload_n 0, 1) := by decide +kernel
theorem dJ7_fill_53178_3 : decode cJ7_fill_53178 3 = .ok (.arraylength, 1) := by decide +kernel
theorem dJ7_fill_53178_4 : decode cJ7_fill_53178 4 = .ok (.istore_n 3, 1) := by decide +kernel
theorem dJ7_fill_53178_5 : decode cJ7_fill_53178 5 = .ok (.iload_n 2, 1) := by decide +kernel
theorem dJ7_fill_53178_6 : decode cJ7_fill_53178 6 = .ok (.iload_n 3, 1) := by decide +kernel
theorem dJ7_fill_53178_7 : decode cJ7_fill_53178 7 = .ok (.if_icmp .ge 13, 3) := by decide +kernel
theorem dJ7_fill_53178_10 : decode cJ7_fill_53178 10 = .ok (.aload_n 0, 1) := by decide +kernel
theorem dJ7_fill_53178_11 : decode cJ7_fill_53178 11 = .ok (.iload_n 2, 1) := by decide +kernel
theorem dJ7_fill_53178_12 : decode cJ7_fill_53178 12 = .ok (.iload_n 1, 1) := by decide +kernel
theorem dJ7_fill_53178_13 : decode cJ7_fill_53178 13 = .ok (.iastore, 1) := by decide +kernel
theorem dJ7_fill_53178_14 : decode cJ7_fill_53178 14 = .ok (.iinc 2 1, 3) := by decide +kernel
theorem dJ7_fill_53178_17 : decode cJ7_fill_53178 17 = .ok (.goto (-12), 3) := by decide +kernel
theorem dJ7_fill_53178_20 : decode cJ7_fill_53178 20 = .ok (.return_, 1) := by decide +kernel
end
section
theorem dX1_init_0 : decode cX1_init 0 = .ok (.aload_n 0, 1) := by decide +kernel
theorem dX1_init_1 : decode cX1_init 1 = .ok (.invokespecial 3, 3) := by decide +kernel
theorem dX1_init_4 : decode cX1_init 4 = .ok (.aload_n 0, 1) := by decide +kernel
theorem dX1_init_5 : decode cX1_init 5 = .ok (.getstatic 9, 3) := by decide +kernel
theorem dX1_init_8 : decode cX1_init 8 = .ok (.invokevirtual 13, 3) := by decide +kernel
theorem dX1_init_11 : decode cX1_init 11 = .ok (.checkcast 14, 3) := by decide +kernel
theorem dX1_init_14 : decode cX1_init 14 = .ok (.putfield 18, 3) := by decide +kernel
theorem dX1_init_17 : decode cX1_init 17 = .ok (.aload_n 0, 1) := by decide +kernel
theorem dX1_init_18 : decode cX1_init 18 = .ok (.new 23, 3) := by decide +kernel
theorem dX1_init_21 : decode cX1_init 21 = .ok (.dup, 1) := by decide +kernel
theorem dX1_init_22 : decode cX1_init 22 = .ok (.invokespecial 25, 3) := by decide +kernel
theorem dX1_init_25 : decode cX1_init 25 = .ok (.putfield 26, 3) := by decide +kernel
theorem dX1_init_28 : decode cX1_init 28 = .ok (.aload_n 0, 1) := by decide +kernel
theorem dX1_init_29 : decode cX1_init 29 = .ok (.new 30, 3) := by decide +kernel
theorem dX1_init_32 : decode cX1_init 32 = .ok (.dup, 1) := by decide +kernel
theorem dX1_init_33 : decode cX1_init 33 = .ok (.invokespecial 32, 3) := by decide +kernel
theorem dX1_init_36 : decode cX1_init 36 = .ok (.putfield 33, 3) := by decide +kernel
theorem dX1_init_39 : decode cX1_init 39 = .ok (.aload_n 0, 1) := by decide +kernel
theorem dX1_init_40 : decode cX1_init 40 = .ok (.iconst 0, 1) := by decide +kernel
theorem dX1_init_41 : decode cX1_init 41 = .ok (.putfield 37, 3) := by decide +kernel
theorem dX1_init_44 : decode cX1_init 44 = .ok (.return_, 1) := by decide +kernel
theorem dX1_setRule_0 : decode cX1_setRule 0 = .ok (.aload_n 0, 1) := by decide +kernel
theorem dX1_setRule_1 : decode cX1_setRule 1 = .ok (.getfield 18, 3) := by decide +kernel
theorem dX1_setRule_4 : decode cX1_setRule 4 = .ok (.iload_n 1, 1) := by decide +kernel
theorem dX1_setRule_5 : decode cX1_setRule 5 = .ok (.iaload, 1) := by decide +kernel
theorem dX1_setRule_6 : decode cX1_setRule 6 = .ok (.istore_n 3, 1) := by decide +kernel
theorem dX1_setRule_7 : decode cX1_setRule 7 = .ok (.aload_n 0, 1) := by decide +kernel
theorem dX1_setRule_8 : decode cX1_setRule 8 = .ok (.getfield 18, 3) := by decide +kernel
theorem dX1_setRule_11 : decode cX1_setRule 11 = .ok (.iload_n 1, 1) := by decide +kernel
theorem dX1_setRule_12 : decode cX1_setRule 12 = .ok (.iload_n 2, 1) := by decide +kernel
theorem dX1_setRule_13 : decode cX1_setRule 13 = .ok (.iastore, 1) := by decide +kernel
theorem dX1_setRule_14 : decode cX1_setRule 14 = .ok (.iload_n 1, 1) := by decide +kernel
theorem dX1_setRule_15 : decode cX1_setRule 15 = .ok (.ifCond .ne 12, 3) := by decide +kernel
theorem dX1_setRule_18 : decode cX1_setRule 18 = .ok (.iload_n 2, 1) := by decide +kernel
theorem dX1_setRule_19 : decode cX1_setRule 19 = .ok (.iload_n 3, 1) := by decide +kernel
theorem dX1_setRule_20 : decode cX1_setRule 20 = .ok (.if_icmp .eq 7, 3) := by decide +kernel
theorem dX1_setRule_23 : decode cX1_setRule 23 = .ok (.aload_n 0, 1) := by decide +kernel
theorem dX1_setRule_24 : decode cX1_setRule 24 = .ok (.invokevirtual 41, 3) := by decide +kernel
theorem dX1_setRule_27 : decode cX1_setRule 27 = .ok (.aload_n 0, 1) := by decide +kernel
theorem dX1_setRule_28 : decode cX1_setRule 28 = .ok (.invokevirtual 44, 3) := by decide +kernel
theorem dX1_setRule_31 : decode cX1_setRule 31 = .ok (.pop, 1) := by decide +kernel
theorem dX1_setRule_32 : decode cX1_setRule 32 = .ok (.iload_n 3, 1) := by decide +kernel
theorem dX1_setRule_33 : decode cX1_setRule 33 = .ok (.ireturn, 1) := by decide +kernel
theorem dX1_goOut_0 : decode cX1_goOut 0 = .ok (.aload_n 0, 1) := by decide +kernel
theorem dX1_goOut_1 : decode cX1_goOut 1 = .ok (.getfield 26, 3) := by decide +kernel
theorem dX1_goOut_4 : decode cX1_goOut 4 = .ok (.iload_n 1, 1) := by decide +kernel
theorem dX1_goOut_5 : decode cX1_goOut 5 = .ok (.bipush 32, 2) := by decide +kernel
theorem dX1_goOut_7 : decode cX1_goOut 7 = .ok (.imul, 1) := by decide +kernel
theorem dX1_goOut_8 : decode cX1_goOut 8 = .ok (.iload_n 2, 1) := by decide +kernel
theorem dX1_goOut_9 : decode cX1_goOut 9 = .ok (.iadd, 1) := by decide +kernel
theorem dX1_goOut_10 : decode cX1_goOut 10 = .ok (.iload_n 3, 1) := by decide +kernel
theorem dX1_goOut_11 : decode cX1_goOut 11 = .ok (.iload 4, 2) := by decide +kernel
theorem dX1_goOut_13 : decode cX1_goOut 13 = .ok (.invokevirtual 48, 3) := by decide +kernel
theorem dX1_goOut_16 : decode cX1_goOut 16 = .ok (.istore 6, 2) := by decide +kernel
theorem dX1_goOut_18 : decode cX1_goOut 18 = .ok (.iload 6, 2) := by decide +kernel
theorem dX1_goOut_20 : decode cX1_goOut 20 = .ok (.bipush (-6), 2) := by decide +kernel
theorem dX1_goOut_22 : decode cX1_goOut 22 = .ok (.if_icmp .ne 14, 3) := by decide +kernel
theorem dX1_goOut_25 : decode cX1_goOut 25 = .ok (.aload_n 0, 1) := by decide +kernel
theorem dX1_goOut_26 : decode cX1_goOut 26 = .ok (.iload_n 1, 1) := by decide +kernel
theorem dX1_goOut_27 : decode cX1_goOut 27 = .ok (.iload_n 2, 1) := by decide +kernel
theorem dX1_goOut_28 : decode cX1_goOut 28 = .ok (.iload_n 3, 1) := by decide +kernel
theorem dX1_goOut_29 : decode cX1_goOut 29 = .ok (.iload 4, 2) := by decide +kernel
theorem dX1_goOut_31 : decode cX1_goOut 31 = .ok (.invokevirtual 52, 3) := by decide +kernel
theorem dX1_goOut_34 : decode cX1_goOut 34 = .ok (.istore 6, 2) := by decide +kernel
theorem dX1_goOut_36 : decode cX1_goOut 36 = .ok (.iload 6, 2) := by decide +kernel
theorem dX1_goOut_38 : decode cX1_goOut 38 = .ok (.bipush (-6), 2) := by decide +kernel
theorem dX1_goOut_40 : decode cX1_goOut 40 = .ok (.if_icmp .ne 6, 3) := by decide +kernel
theorem dX1_goOut_43 : decode cX1_goOut 43 = .ok (.bipush (-5), 2) := by decide +kernel
theorem dX1_goOut_45 : decode cX1_goOut 45 = .ok (.ireturn, 1) := by decide +kernel
theorem dX1_goOut_46 : decode cX1_goOut 46 = .ok (.aload_n 0, 1) := by decide +kernel
theorem dX1_goOut_47 : decode cX1_goOut 47 = .ok (.getfield 26, 3) := by decide +kernel
theorem dX1_goOut_50 : decode cX1_goOut 50 = .ok (.iload 6, 2) := by decide +kernel
theorem dX1_goOut_52 : decode cX1_goOut 52 = .ok (.iload_n 3, 1) := by decide +kernel
theorem dX1_goOut_53 : decode cX1_goOut 53 = .ok (.iload 4, 2) := by decide +kernel
theorem dX1_goOut_55 : decode cX1_goOut 55 = .ok (.invokevirtual 56, 3) := by decide +kernel
theorem dX1_goOut_58 : decode cX1_goOut 58 = .ok (.aload_n 0, 1) := by decide +kernel
theorem dX1_goOut_59 : decode cX1_goOut 59 = .ok (.getfield 26, 3) := by decide +kernel
theorem dX1_goOut_62 : decode cX1_goOut 62 = .ok (.getfield 60, 3) := by decide +kernel
theorem dX1_goOut_65 : decode cX1_goOut 65 = .ok (.iload 6, 2) := by decide +kernel
theorem dX1_goOut_67 : decode cX1_goOut 67 = .ok (.aload_n 0, 1) := by decide +kernel
theorem dX1_goOut_68 : decode cX1_goOut 68 = .ok (.getfield 37, 3) := by decide +kernel
theorem dX1_goOut_71 : decode cX1_goOut 71 = .ok (.iastore, 1) := by decide +kernel
theorem dX1_goOut_72 : decode cX1_goOut 72 = .ok (.iload 5, 2) := by decide +kernel
theorem dX1_goOut_74 : decode cX1_goOut 74 = .ok (.iconst 2, 1) := by decide +kernel
theorem dX1_goOut_75 : decode cX1_goOut 75 = .ok (.if_icmp .ne 17, 3) := by decide +kernel
theorem dX1_goOut_78 : decode cX1_goOut 78 = .ok (.aload_n 0, 1) := by decide +kernel
theorem dX1_goOut_79 : decode cX1_goOut 79 = .ok (.getfield 26, 3) := by decide +kernel
theorem dX1_goOut_82 : decode cX1_goOut 82 = .ok (.getfield 63, 3) := by decide +kernel
theorem dX1_goOut_85 : decode cX1_goOut 85 = .ok (.iload 6, 2) := by decide +kernel
theorem dX1_goOut_87 : decode cX1_goOut 87 = .ok (.iconst 2, 1) := by decide +kernel
theorem dX1_goOut_88 : decode cX1_goOut 88 = .ok (.iastore, 1) := by decide +kernel
theorem dX1_goOut_89 : decode cX1_goOut 89 = .ok (.goto 34, 3) := by decide +kernel
theorem dX1_goOut_92 : decode cX1_goOut 92 = .ok (.iload 5, 2) := by decide +kernel
theorem dX1_goOut_94 : decode cX1_goOut 94 = .ok (.iconst 1, 1) := by decide +kernel
theorem dX1_goOut_95 : decode cX1_goOut 95 = .ok (.if_icmp .ne 28, 3) := by decide +kernel
theorem dX1_goOut_98 : decode cX1_goOut 98 = .ok (.aload_n 0, 1) := by decide +kernel
theorem dX1_goOut_99 : decode cX1_goOut 99 = .ok (.getfield 26, 3) := by decide +kernel
theorem dX1_goOut_102 : decode cX1_goOut 102 = .ok (.getfield 63, 3) := by decide +kernel
theorem dX1_goOut_105 : decode cX1_goOut 105 = .ok (.iload 6, 2) := by decide +kernel
theorem dX1_goOut_107 : decode cX1_goOut 107 = .ok (.iaload, 1) := by decide +kernel
theorem dX1_goOut_108 : decode cX1_goOut 108 = .ok (.iconst 2, 1) := by decide +kernel
theorem dX1_goOut_109 : decode cX1_goOut 109 = .ok (.if_icmp .ne 14, 3) := by decide +kernel
theorem dX1_goOut_112 : decode cX1_goOut 112 = .ok (.aload_n 0, 1) := by decide +kernel
theorem dX1_goOut_113 : decode cX1_goOut 113 = .ok (.getfield 26, 3) := by decide +kernel
theorem dX1_goOut_116 : decode cX1_goOut 116 = .ok (.getfield 63, 3) := by decide +kernel
theorem dX1_goOut_119 : decode cX1_goOut 119 = .ok (.iload 6, 2) := by decide +kernel
theorem dX1_goOut_121 : decode cX1_goOut 121 = .ok (.iconst 0, 1) := by decide +kernel
theorem dX1_goOut_122 : decode cX1_goOut 122 = .ok (.iastore, 1) := by decide +kernel
theorem dX1_goOut_123 : decode cX1_goOut 123 = .ok (.iload 6, 2) := by decide +kernel
theorem dX1_goOut_125 : decode cX1_goOut 125 = .ok (.ireturn, 1) := by decide +kernel
theorem dX1_makeBinding_0 : decode cX1_makeBinding 0 = .ok (.aload_n 0, 1) := by decide +kernel
theorem dX1_makeBinding_1 : decode cX1_makeBinding 1 = .ok (.iload_n 1, 1) := by decide +kernel
theorem dX1_makeBinding_2 : decode cX1_makeBinding 2 = .ok (.iload_n 2, 1) := by decide +kernel
theorem dX1_makeBinding_3 : decode cX1_makeBinding 3 = .ok (.invokevirtual 66, 3) := by decide +kernel
theorem dX1_makeBinding_6 : decode cX1_makeBinding 6 = .ok (.istore 5, 2) := by decide +kernel
theorem dX1_makeBinding_8 : decode cX1_makeBinding 8 = .ok (.iload 5, 2) := by decide +kernel
theorem dX1_makeBinding_10 : decode cX1_makeBinding 10 = .ok (.bipush (-6), 2) := by decide +kernel
theorem dX1_makeBinding_12 : decode cX1_makeBinding 12 = .ok (.if_icmp .ne 6, 3) := by decide +kernel
theorem dX1_makeBinding_15 : decode cX1_makeBinding 15 = .ok (.bipush (-6), 2) := by decide +kernel
theorem dX1_makeBinding_17 : decode cX1_makeBinding 17 = .ok (.ireturn, 1) := by decide +kernel
theorem dX1_makeBinding_18 : decode cX1_makeBinding 18 = .ok (.aload_n 0, 1) := by decide +kernel
theorem dX1_makeBinding_19 : decode cX1_makeBinding 19 = .ok (.getfield 18, 3) := by decide +kernel
theorem dX1_makeBinding_22 : decode cX1_makeBinding 22 = .ok (.iconst 0, 1) := by decide +kernel
theorem dX1_makeBinding_23 : decode cX1_makeBinding 23 = .ok (.iaload, 1) := by decide +kernel
theorem dX1_makeBinding_24 : decode cX1_makeBinding 24 = .ok (.iconst 1, 1) := by decide +kernel
theorem dX1_makeBinding_25 : decode cX1_makeBinding 25 = .ok (.if_icmp .lt 7, 3) := by decide +kernel
theorem dX1_makeBinding_28 : decode cX1_makeBinding 28 = .ok (.iload_n 3, 1) := by decide +kernel
theorem dX1_makeBinding_29 : decode cX1_makeBinding 29 = .ok (.goto 5, 3) := by decide +kernel
theorem dX1_makeBinding_32 : decode cX1_makeBinding 32 = .ok (.bipush (-6), 2) := by decide +kernel
theorem dX1_makeBinding_34 : decode cX1_makeBinding 34 = .ok (.istore 6, 2) := by decide +kernel
theorem dX1_makeBinding_36 : decode cX1_makeBinding 36 = .ok (.aload_n 0, 1) := by decide +kernel
theorem dX1_makeBinding_37 : decode cX1_makeBinding 37 = .ok (.getfield 18, 3) := by decide +kernel
theorem dX1_makeBinding_40 : decode cX1_makeBinding 40 = .ok (.iconst 0, 1) := by decide +kernel
theorem dX1_makeBinding_41 : decode cX1_makeBinding 41 = .ok (.iaload, 1) := by decide +kernel
theorem dX1_makeBinding_42 : decode cX1_makeBinding 42 = .ok (.iconst 2, 1) := by decide +kernel
theorem dX1_makeBinding_43 : decode cX1_makeBinding 43 = .ok (.if_icmp .lt 8, 3) := by decide +kernel
theorem dX1_makeBinding_46 : decode cX1_makeBinding 46 = .ok (.iload 4, 2) := by decide +kernel
theorem dX1_makeBinding_48 : decode cX1_makeBinding 48 = .ok (.goto 5, 3) := by decide +kernel
theorem dX1_makeBinding_51 : decode cX1_makeBinding 51 = .ok (.bipush (-6), 2) := by decide +kernel
theorem dX1_makeBinding_53 : decode cX1_makeBinding 53 = .ok (.istore 7, 2) := by decide +kernel
theorem dX1_makeBinding_55 : decode cX1_makeBinding 55 = .ok (.aload_n 0, 1) := by decide +kernel
theorem dX1_makeBinding_56 : decode cX1_makeBinding 56 = .ok (.getfield 26, 3) := by decide +kernel
theorem dX1_makeBinding_59 : decode cX1_makeBinding 59 = .ok (.iload 5, 2) := by decide +kernel
theorem dX1_makeBinding_61 : decode cX1_makeBinding 61 = .ok (.iload_n 1, 1) := by decide +kernel
theorem dX1_makeBinding_62 : decode cX1_makeBinding 62 = .ok (.bipush 32, 2) := by decide +kernel
theorem dX1_makeBinding_64 : decode cX1_makeBinding 64 = .ok (.imul, 1) := by decide +kernel
theorem dX1_makeBinding_65 : decode cX1_makeBinding 65 = .ok (.iload_n 2, 1) := by decide +kernel
theorem dX1_makeBinding_66 : decode cX1_makeBinding 66 = .ok (.iadd, 1) := by decide +kernel
theorem dX1_makeBinding_67 : decode cX1_makeBinding 67 = .ok (.iload 6, 2) := by decide +kernel
theorem dX1_makeBinding_69 : decode cX1_makeBinding 69 = .ok (.iload 7, 2) := by decide +kernel
theorem dX1_makeBinding_71 : decode cX1_makeBinding 71 = .ok (.invokevirtual 70, 3) := by decide +kernel
theorem dX1_makeBinding_74 : decode cX1_makeBinding 74 = .ok (.iload 5, 2) := by decide +kernel
theorem dX1_makeBinding_76 : decode cX1_makeBinding 76 = .ok (.ireturn, 1) := by decide +kernel
theorem dX1_comeIn_0 : decode cX1_comeIn 0 = .ok (.aload_n 0, 1) := by decide +kernel
theorem dX1_comeIn_1 : decode cX1_comeIn 1 = .ok (.iload_n 1, 1) := by decide +kernel
theorem dX1_comeIn_2 : decode cX1_comeIn 2 = .ok (.iload_n 2, 1) := by decide +kernel
theorem dX1_comeIn_3 : decode cX1_comeIn 3 = .ok (.iload_n 3, 1) := by decide +kernel
theorem dX1_comeIn_4 : decode cX1_comeIn 4 = .ok (.invokevirtual 74, 3) := by decide +kernel
theorem dX1_comeIn_7 : decode cX1_comeIn 7 = .ok (.ifCond .eq 6, 3) := by decide +kernel
theorem dX1_comeIn_10 : decode cX1_comeIn 10 = .ok (.bipush (-6), 2) := by decide +kernel
theorem dX1_comeIn_12 : decode cX1_comeIn 12 = .ok (.ireturn, 1) := by decide +kernel
theorem dX1_comeIn_13 : decode cX1_comeIn 13 = .ok (.aload_n 0, 1) := by decide +kernel
theorem dX1_comeIn_14 : decode cX1_comeIn 14 = .ok (.getfield 26, 3) := by decide +kernel
theorem dX1_comeIn_17 : decode cX1_comeIn 17 = .ok (.getfield 60, 3) := by decide +kernel
theorem dX1_comeIn_20 : decode cX1_comeIn 20 = .ok (.iload_n 3, 1) := by decide +kernel
theorem dX1_comeIn_21 : decode cX1_comeIn 21 = .ok (.aload_n 0, 1) := by decide +kernel
theorem dX1_comeIn_22 : decode cX1_comeIn 22 = .ok (.getfield 37, 3) := by decide +kernel
theorem dX1_comeIn_25 : decode cX1_comeIn 25 = .ok (.iastore, 1) := by decide +kernel
theorem dX1_comeIn_26 : decode cX1_comeIn 26 = .ok (.iload 4, 2) := by decide +kernel
theorem dX1_comeIn_28 : decode cX1_comeIn 28 = .ok (.iconst 2, 1) := by decide +kernel
theorem dX1_comeIn_29 : decode cX1_comeIn 29 = .ok (.if_icmp .ne 16, 3) := by decide +kernel
theorem dX1_comeIn_32 : decode cX1_comeIn 32 = .ok (.aload_n 0, 1) := by decide +kernel
theorem dX1_comeIn_33 : decode cX1_comeIn 33 = .ok (.getfield 26, 3) := by decide +kernel
theorem dX1_comeIn_36 : decode cX1_comeIn 36 = .ok (.getfield 63, 3) := by decide +kernel
theorem dX1_comeIn_39 : decode cX1_comeIn 39 = .ok (.iload_n 3, 1) := by decide +kernel
theorem dX1_comeIn_40 : decode cX1_comeIn 40 = .ok (.iconst 2, 1) := by decide +kernel
theorem dX1_comeIn_41 : decode cX1_comeIn 41 = .ok (.iastore, 1) := by decide +kernel
theorem dX1_comeIn_42 : decode cX1_comeIn 42 = .ok (.goto 25, 3) := by decide +kernel
theorem dX1_comeIn_45 : decode cX1_comeIn 45 = .ok (.aload_n 0, 1) := by decide +kernel
theorem dX1_comeIn_46 : decode cX1_comeIn 46 = .ok (.getfield 26, 3) := by decide +kernel
theorem dX1_comeIn_49 : decode cX1_comeIn 49 = .ok (.getfield 63, 3) := by decide +kernel
theorem dX1_comeIn_52 : decode cX1_comeIn 52 = .ok (.iload_n 3, 1) := by decide +kernel
theorem dX1_comeIn_53 : decode cX1_comeIn 53 = .ok (.iaload, 1) := by decide +kernel
theorem dX1_comeIn_54 : decode cX1_comeIn 54 = .ok (.ifCond .ne 13, 3) := by decide +kernel
theorem dX1_comeIn_57 : decode cX1_comeIn 57 = .ok (.aload_n 0, 1) := by decide +kernel
theorem dX1_comeIn_58 : decode cX1_comeIn 58 = .ok (.getfield 26, 3) := by decide +kernel
theorem dX1_comeIn_61 : decode cX1_comeIn 61 = .ok (.getfield 63, 3) := by decide +kernel
theorem dX1_comeIn_64 : decode cX1_comeIn 64 = .ok (.iload_n 3, 1) := by decide +kernel
theorem dX1_comeIn_65 : decode cX1_comeIn 65 = .ok (.iconst 1, 1) := by decide +kernel
theorem dX1_comeIn_66 : decode cX1_comeIn 66 = .ok (.iastore, 1) := by decide +kernel
theorem dX1_comeIn_67 : decode cX1_comeIn 67 = .ok (.aload_n 0, 1) := by decide +kernel
theorem dX1_comeIn_68 : decode cX1_comeIn 68 = .ok (.getfield 26, 3) := by decide +kernel
theorem dX1_comeIn_71 : decode cX1_comeIn 71 = .ok (.getfield 77, 3) := by decide +kernel
theorem dX1_comeIn_74 : decode cX1_comeIn 74 = .ok (.iload_n 3, 1) := by decide +kernel
theorem dX1_comeIn_75 : decode cX1_comeIn 75 = .ok (.iaload, 1) := by decide +kernel
theorem dX1_comeIn_76 : decode cX1_comeIn 76 = .ok (.ireturn, 1) := by decide +kernel
theorem dX1_reasonAgainst_0 : decode cX1_reasonAgainst 0 = .ok (.aload_n 0, 1) := by decide +kernel
theorem dX1_reasonAgainst_1 : decode cX1_reasonAgainst 1 = .ok (.getfield 26, 3) := by decide +kernel
theorem dX1_reasonAgainst_4 : decode cX1_reasonAgainst 4 = .ok (.iload_n 3, 1) := by decide +kernel
theorem dX1_reasonAgainst_5 : decode cX1_reasonAgainst 5 = .ok (.invokevirtual 80, 3) := by decide +kernel
theorem dX1_reasonAgainst_8 : decode cX1_reasonAgainst 8 = .ok (.ifCond .ne 5, 3) := by decide +kernel
theorem dX1_reasonAgainst_11 : decode cX1_reasonAgainst 11 = .ok (.iconst 1, 1) := by decide +kernel
theorem dX1_reasonAgainst_12 : decode cX1_reasonAgainst 12 = .ok (.ireturn, 1) := by decide +kernel
theorem dX1_reasonAgainst_13 : decode cX1_reasonAgainst 13 = .ok (.aload_n 0, 1) := by decide +kernel
theorem dX1_reasonAgainst_14 : decode cX1_reasonAgainst 14 = .ok (.getfield 18, 3) := by decide +kernel
theorem dX1_reasonAgainst_17 : decode cX1_reasonAgainst 17 = .ok (.iconst 1, 1) := by decide +kernel
theorem dX1_reasonAgainst_18 : decode cX1_reasonAgainst 18 = .ok (.iaload, 1) := by decide +kernel
theorem dX1_reasonAgainst_19 : decode cX1_reasonAgainst 19 = .ok (.iconst 1, 1) := by decide +kernel
theorem dX1_reasonAgainst_20 : decode cX1_reasonAgainst 20 = .ok (.if_icmp .ne 17, 3) := by decide +kernel
theorem dX1_reasonAgainst_23 : decode cX1_reasonAgainst 23 = .ok (.aload_n 0, 1) := by decide +kernel
theorem dX1_reasonAgainst_24 : decode cX1_reasonAgainst 24 = .ok (.getfield 26, 3) := by decide +kernel
theorem dX1_reasonAgainst_27 : decode cX1_reasonAgainst 27 = .ok (.iload_n 3, 1) := by decide +kernel
theorem dX1_reasonAgainst_28 : decode cX1_reasonAgainst 28 = .ok (.iload_n 1, 1) := by decide +kernel
theorem dX1_reasonAgainst_29 : decode cX1_reasonAgainst 29 = .ok (.invokevirtual 84, 3) := by decide +kernel
theorem dX1_reasonAgainst_32 : decode cX1_reasonAgainst 32 = .ok (.ifCond .ne 5, 3) := by decide +kernel
theorem dX1_reasonAgainst_35 : decode cX1_reasonAgainst 35 = .ok (.iconst 2, 1) := by decide +kernel
theorem dX1_reasonAgainst_36 : decode cX1_reasonAgainst 36 = .ok (.ireturn, 1) := by decide +kernel
theorem dX1_reasonAgainst_37 : decode cX1_reasonAgainst 37 = .ok (.aload_n 0, 1) := by decide +kernel
theorem dX1_reasonAgainst_38 : decode cX1_reasonAgainst 38 = .ok (.getfield 18, 3) := by decide +kernel
theorem dX1_reasonAgainst_41 : decode cX1_reasonAgainst 41 = .ok (.iconst 1, 1) := by decide +kernel
theorem dX1_reasonAgainst_42 : decode cX1_reasonAgainst 42 = .ok (.iaload, 1) := by decide +kernel
theorem dX1_reasonAgainst_43 : decode cX1_reasonAgainst 43 = .ok (.iconst 2, 1) := by decide +kernel
theorem dX1_reasonAgainst_44 : decode cX1_reasonAgainst 44 = .ok (.if_icmp .ne 18, 3) := by decide +kernel
theorem dX1_reasonAgainst_47 : decode cX1_reasonAgainst 47 = .ok (.aload_n 0, 1) := by decide +kernel
theorem dX1_reasonAgainst_48 : decode cX1_reasonAgainst 48 = .ok (.getfield 26, 3) := by decide +kernel
theorem dX1_reasonAgainst_51 : decode cX1_reasonAgainst 51 = .ok (.iload_n 3, 1) := by decide +kernel
theorem dX1_reasonAgainst_52 : decode cX1_reasonAgainst 52 = .ok (.iload_n 1, 1) := by decide +kernel
theorem dX1_reasonAgainst_53 : decode cX1_reasonAgainst 53 = .ok (.iload_n 2, 1) := by decide +kernel
theorem dX1_reasonAgainst_54 : decode cX1_reasonAgainst 54 = .ok (.invokevirtual 88, 3) := by decide +kernel
theorem dX1_reasonAgainst_57 : decode cX1_reasonAgainst 57 = .ok (.ifCond .ne 5, 3) := by decide +kernel
theorem dX1_reasonAgainst_60 : decode cX1_reasonAgainst 60 = .ok (.iconst 2, 1) := by decide +kernel
theorem dX1_reasonAgainst_61 : decode cX1_reasonAgainst 61 = .ok (.ireturn, 1) := by decide +kernel
theorem dX1_reasonAgainst_62 : decode cX1_reasonAgainst 62 = .ok (.iconst 0, 1) := by decide +kernel
theorem dX1_reasonAgainst_63 : decode cX1_reasonAgainst 63 = .ok (.ireturn, 1) := by decide +kernel
theorem dX1_takeFirstPart_0 : decode cX1_takeFirstPart 0 = .ok (.aload_n 0, 1) := by decide +kernel
theorem dX1_takeFirstPart_1 : decode cX1_takeFirstPart 1 = .ok (.iload_n 2, 1) := by decide +kernel
theorem dX1_takeFirstPart_2 : decode cX1_takeFirstPart 2 = .ok (.iload_n 3, 1) := by decide +kernel
theorem dX1_takeFirstPart_3 : decode cX1_takeFirstPart 3 = .ok (.iload 4, 2) := by decide +kernel
theorem dX1_takeFirstPart_5 : decode cX1_takeFirstPart 5 = .ok (.iconst 0, 1) := by decide +kernel
theorem dX1_takeFirstPart_6 : decode cX1_takeFirstPart 6 = .ok (.invokevirtual 92, 3) := by decide +kernel
theorem dX1_takeFirstPart_9 : decode cX1_takeFirstPart 9 = .ok (.bipush (-6), 2) := by decide +kernel
theorem dX1_takeFirstPart_11 : decode cX1_takeFirstPart 11 = .ok (.if_icmp .eq 7, 3) := by decide +kernel
theorem dX1_takeFirstPart_14 : decode cX1_takeFirstPart 14 = .ok (.iconst 1, 1) := by decide +kernel
theorem dX1_takeFirstPart_15 : decode cX1_takeFirstPart 15 = .ok (.goto 4, 3) := by decide +kernel
theorem dX1_takeFirstPart_18 : decode cX1_takeFirstPart 18 = .ok (.iconst 0, 1) := by decide +kernel
theorem dX1_takeFirstPart_19 : decode cX1_takeFirstPart 19 = .ok (.istore 5, 2) := by decide +kernel
theorem dX1_takeFirstPart_21 : decode cX1_takeFirstPart 21 = .ok (.aload_n 0, 1) := by decide +kernel
theorem dX1_takeFirstPart_22 : decode cX1_takeFirstPart 22 = .ok (.getfield 33, 3) := by decide +kernel
theorem dX1_takeFirstPart_25 : decode cX1_takeFirstPart 25 = .ok (.iload_n 1, 1) := by decide +kernel
theorem dX1_takeFirstPart_26 : decode cX1_takeFirstPart 26 = .ok (.invokevirtual 95, 3) := by decide +kernel
theorem dX1_takeFirstPart_29 : decode cX1_takeFirstPart 29 = .ok (.istore 6, 2) := by decide +kernel
theorem dX1_takeFirstPart_31 : decode cX1_takeFirstPart 31 = .ok (.iload 5, 2) := by decide +kernel
theorem dX1_takeFirstPart_33 : decode cX1_takeFirstPart 33 = .ok (.ifCond .ne 14, 3) := by decide +kernel
theorem dX1_takeFirstPart_36 : decode cX1_takeFirstPart 36 = .ok (.aload_n 0, 1) := by decide +kernel
theorem dX1_takeFirstPart_37 : decode cX1_takeFirstPart 37 = .ok (.getfield 33, 3) := by decide +kernel
theorem dX1_takeFirstPart_40 : decode cX1_takeFirstPart 40 = .ok (.iload_n 1, 1) := by decide +kernel
theorem dX1_takeFirstPart_41 : decode cX1_takeFirstPart 41 = .ok (.invokevirtual 99, 3) := by decide +kernel
theorem dX1_takeFirstPart_44 : decode cX1_takeFirstPart 44 = .ok (.bipush (-6), 2) := by decide +kernel
theorem dX1_takeFirstPart_46 : decode cX1_takeFirstPart 46 = .ok (.ireturn, 1) := by decide +kernel
theorem dX1_takeFirstPart_47 : decode cX1_takeFirstPart 47 = .ok (.aload_n 0, 1) := by decide +kernel
theorem dX1_takeFirstPart_48 : decode cX1_takeFirstPart 48 = .ok (.getfield 33, 3) := by decide +kernel
theorem dX1_takeFirstPart_51 : decode cX1_takeFirstPart 51 = .ok (.iload_n 1, 1) := by decide +kernel
theorem dX1_takeFirstPart_52 : decode cX1_takeFirstPart 52 = .ok (.iload 4, 2) := by decide +kernel
theorem dX1_takeFirstPart_54 : decode cX1_takeFirstPart 54 = .ok (.aload_n 0, 1) := by decide +kernel
theorem dX1_takeFirstPart_55 : decode cX1_takeFirstPart 55 = .ok (.getfield 37, 3) := by decide +kernel
theorem dX1_takeFirstPart_58 : decode cX1_takeFirstPart 58 = .ok (.invokevirtual 103, 3) := by decide +kernel
theorem dX1_takeFirstPart_61 : decode cX1_takeFirstPart 61 = .ok (.iconst 1, 1) := by decide +kernel
theorem dX1_takeFirstPart_62 : decode cX1_takeFirstPart 62 = .ok (.iload 6, 2) := by decide +kernel
theorem dX1_takeFirstPart_64 : decode cX1_takeFirstPart 64 = .ok (.iadd, 1) := by decide +kernel
theorem dX1_takeFirstPart_65 : decode cX1_takeFirstPart 65 = .ok (.ireturn, 1) := by decide +kernel
theorem dX1_takeOtherPart_0 : decode cX1_takeOtherPart 0 = .ok (.aload_n 0, 1) := by decide +kernel
theorem dX1_takeOtherPart_1 : decode cX1_takeOtherPart 1 = .ok (.getfield 33, 3) := by decide +kernel
theorem dX1_takeOtherPart_4 : decode cX1_takeOtherPart 4 = .ok (.iload_n 1, 1) := by decide +kernel
theorem dX1_takeOtherPart_5 : decode cX1_takeOtherPart 5 = .ok (.invokevirtual 106, 3) := by decide +kernel
theorem dX1_takeOtherPart_8 : decode cX1_takeOtherPart 8 = .ok (.ifCond .eq 7, 3) := by decide +kernel
theorem dX1_takeOtherPart_11 : decode cX1_takeOtherPart 11 = .ok (.iconst 1, 1) := by decide +kernel
theorem dX1_takeOtherPart_12 : decode cX1_takeOtherPart 12 = .ok (.goto 16, 3) := by decide +kernel
theorem dX1_takeOtherPart_15 : decode cX1_takeOtherPart 15 = .ok (.aload_n 0, 1) := by decide +kernel
theorem dX1_takeOtherPart_16 : decode cX1_takeOtherPart 16 = .ok (.getfield 33, 3) := by decide +kernel
theorem dX1_takeOtherPart_19 : decode cX1_takeOtherPart 19 = .ok (.iload_n 1, 1) := by decide +kernel
theorem dX1_takeOtherPart_20 : decode cX1_takeOtherPart 20 = .ok (.iload_n 2, 1) := by decide +kernel
theorem dX1_takeOtherPart_21 : decode cX1_takeOtherPart 21 = .ok (.aload_n 0, 1) := by decide +kernel
theorem dX1_takeOtherPart_22 : decode cX1_takeOtherPart 22 = .ok (.getfield 37, 3) := by decide +kernel
theorem dX1_takeOtherPart_25 : decode cX1_takeOtherPart 25 = .ok (.invokevirtual 109, 3) := by decide +kernel
theorem dX1_takeOtherPart_28 : decode cX1_takeOtherPart 28 = .ok (.ireturn, 1) := by decide +kernel
theorem dX1_passTicks_0 : decode cX1_passTicks 0 = .ok (.aload_n 0, 1) := by decide +kernel
theorem dX1_passTicks_1 : decode cX1_passTicks 1 = .ok (.dup, 1) := by decide +kernel
theorem dX1_passTicks_2 : decode cX1_passTicks 2 = .ok (.getfield 37, 3) := by decide +kernel
theorem dX1_passTicks_5 : decode cX1_passTicks 5 = .ok (.iload_n 1, 1) := by decide +kernel
theorem dX1_passTicks_6 : decode cX1_passTicks 6 = .ok (.iadd, 1) := by decide +kernel
theorem dX1_passTicks_7 : decode cX1_passTicks 7 = .ok (.putfield 37, 3) := by decide +kernel
theorem dX1_passTicks_10 : decode cX1_passTicks 10 = .ok (.aload_n 0, 1) := by decide +kernel
theorem dX1_passTicks_11 : decode cX1_passTicks 11 = .ok (.getfield 33, 3) := by decide +kernel
theorem dX1_passTicks_14 : decode cX1_passTicks 14 = .ok (.aload_n 0, 1) := by decide +kernel
theorem dX1_passTicks_15 : decode cX1_passTicks 15 = .ok (.getfield 37, 3) := by decide +kernel
theorem dX1_passTicks_18 : decode cX1_passTicks 18 = .ok (.invokevirtual 112, 3) := by decide +kernel
theorem dX1_passTicks_21 : decode cX1_passTicks 21 = .ok (.aload_n 0, 1) := by decide +kernel
theorem dX1_passTicks_22 : decode cX1_passTicks 22 = .ok (.invokevirtual 44, 3) := by decide +kernel
theorem dX1_passTicks_25 : decode cX1_passTicks 25 = .ok (.ireturn, 1) := by decide +kernel
theorem dX1_choose_0 : decode cX1_choose 0 = .ok (.iload_n 2, 1) := by decide +kernel
theorem dX1_choose_1 : decode cX1_choose 1 = .ok (.bipush 16, 2) := by decide +kernel
theorem dX1_choose_3 : decode cX1_choose 3 = .ok (.irem, 1) := by decide +kernel
theorem dX1_choose_4 : decode cX1_choose 4 = .ok (.istore_n 3, 1) := by decide +kernel
theorem dX1_choose_5 : decode cX1_choose 5 = .ok (.iload_n 3, 1) := by decide +kernel
theorem dX1_choose_6 : decode cX1_choose 6 = .ok (.iconst 4, 1) := by decide +kernel
theorem dX1_choose_7 : decode cX1_choose 7 = .ok (.idiv, 1) := by decide +kernel
theorem dX1_choose_8 : decode cX1_choose 8 = .ok (.istore 4, 2) := by decide +kernel
theorem dX1_choose_10 : decode cX1_choose 10 = .ok (.aload_n 0, 1) := by decide +kernel
theorem dX1_choose_11 : decode cX1_choose 11 = .ok (.iload_n 3, 1) := by decide +kernel
theorem dX1_choose_12 : decode cX1_choose 12 = .ok (.iload_n 2, 1) := by decide +kernel
theorem dX1_choose_13 : decode cX1_choose 13 = .ok (.invokevirtual 115, 3) := by decide +kernel
theorem dX1_choose_16 : decode cX1_choose 16 = .ok (.ifCond .eq 18, 3) := by decide +kernel
theorem dX1_choose_19 : decode cX1_choose 19 = .ok (.aload_n 0, 1) := by decide +kernel
theorem dX1_choose_20 : decode cX1_choose 20 = .ok (.getfield 26, 3) := by decide +kernel
theorem dX1_choose_23 : decode cX1_choose 23 = .ok (.iload 4, 2) := by decide +kernel
theorem dX1_choose_25 : decode cX1_choose 25 = .ok (.invokevirtual 118, 3) := by decide +kernel
theorem dX1_choose_28 : decode cX1_choose 28 = .ok (.iload_n 1, 1) := by decide +kernel
theorem dX1_choose_29 : decode cX1_choose 29 = .ok (.if_icmp .ne 5, 3) := by decide +kernel
theorem dX1_choose_32 : decode cX1_choose 32 = .ok (.iload_n 3, 1) := by decide +kernel
theorem dX1_choose_33 : decode cX1_choose 33 = .ok (.ireturn, 1) := by decide +kernel
theorem dX1_choose_34 : decode cX1_choose 34 = .ok (.aload_n 0, 1) := by decide +kernel
theorem dX1_choose_35 : decode cX1_choose 35 = .ok (.iload_n 1, 1) := by decide +kernel
theorem dX1_choose_36 : decode cX1_choose 36 = .ok (.iload_n 2, 1) := by decide +kernel
theorem dX1_choose_37 : decode cX1_choose 37 = .ok (.invokevirtual 121, 3) := by decide +kernel
theorem dX1_choose_40 : decode cX1_choose 40 = .ok (.istore 5, 2) := by decide +kernel
theorem dX1_choose_42 : decode cX1_choose 42 = .ok (.iload 5, 2) := by decide +kernel
theorem dX1_choose_44 : decode cX1_choose 44 = .ok (.bipush (-6), 2) := by decide +kernel
theorem dX1_choose_46 : decode cX1_choose 46 = .ok (.if_icmp .eq 6, 3) := by decide +kernel
theorem dX1_choose_49 : decode cX1_choose 49 = .ok (.iload 5, 2) := by decide +kernel
theorem dX1_choose_51 : decode cX1_choose 51 = .ok (.ireturn, 1) := by decide +kernel
theorem dX1_choose_52 : decode cX1_choose 52 = .ok (.aload_n 0, 1) := by decide +kernel
theorem dX1_choose_53 : decode cX1_choose 53 = .ok (.getfield 26, 3) := by decide +kernel
theorem dX1_choose_56 : decode cX1_choose 56 = .ok (.iload 4, 2) := by decide +kernel
theorem dX1_choose_58 : decode cX1_choose 58 = .ok (.invokevirtual 118, 3) := by decide +kernel
theorem dX1_choose_61 : decode cX1_choose 61 = .ok (.bipush (-6), 2) := by decide +kernel
theorem dX1_choose_63 : decode cX1_choose 63 = .ok (.if_icmp .ne 5, 3) := by decide +kernel
theorem dX1_choose_66 : decode cX1_choose 66 = .ok (.iload_n 3, 1) := by decide +kernel
theorem dX1_choose_67 : decode cX1_choose 67 = .ok (.ireturn, 1) := by decide +kernel
theorem dX1_choose_68 : decode cX1_choose 68 = .ok (.aload_n 0, 1) := by decide +kernel
theorem dX1_choose_69 : decode cX1_choose 69 = .ok (.bipush (-6), 2) := by decide +kernel
theorem dX1_choose_71 : decode cX1_choose 71 = .ok (.iload_n 2, 1) := by decide +kernel
theorem dX1_choose_72 : decode cX1_choose 72 = .ok (.invokevirtual 121, 3) := by decide +kernel
theorem dX1_choose_75 : decode cX1_choose 75 = .ok (.ireturn, 1) := by decide +kernel
theorem dX1_isFit_0 : decode cX1_isFit 0 = .ok (.aload_n 0, 1) := by decide +kernel
theorem dX1_isFit_1 : decode cX1_isFit 1 = .ok (.getfield 26, 3) := by decide +kernel
theorem dX1_isFit_4 : decode cX1_isFit 4 = .ok (.iload_n 1, 1) := by decide +kernel
theorem dX1_isFit_5 : decode cX1_isFit 5 = .ok (.invokevirtual 80, 3) := by decide +kernel
theorem dX1_isFit_8 : decode cX1_isFit 8 = .ok (.ifCond .ne 25, 3) := by decide +kernel
theorem dX1_isFit_11 : decode cX1_isFit 11 = .ok (.aload_n 0, 1) := by decide +kernel
theorem dX1_isFit_12 : decode cX1_isFit 12 = .ok (.getfield 18, 3) := by decide +kernel
theorem dX1_isFit_15 : decode cX1_isFit 15 = .ok (.iconst 2, 1) := by decide +kernel
theorem dX1_isFit_16 : decode cX1_isFit 16 = .ok (.iaload, 1) := by decide +kernel
theorem dX1_isFit_17 : decode cX1_isFit 17 = .ok (.ifCond .eq 12, 3) := by decide +kernel
theorem dX1_isFit_20 : decode cX1_isFit 20 = .ok (.iload_n 1, 1) := by decide +kernel
theorem dX1_isFit_21 : decode cX1_isFit 21 = .ok (.iconst 2, 1) := by decide +kernel
theorem dX1_isFit_22 : decode cX1_isFit 22 = .ok (.irem, 1) := by decide +kernel
theorem dX1_isFit_23 : decode cX1_isFit 23 = .ok (.iload_n 2, 1) := by decide +kernel
theorem dX1_isFit_24 : decode cX1_isFit 24 = .ok (.iconst 2, 1) := by decide +kernel
theorem dX1_isFit_25 : decode cX1_isFit 25 = .ok (.irem, 1) := by decide +kernel
theorem dX1_isFit_26 : decode cX1_isFit 26 = .ok (.if_icmp .ne 7, 3) := by decide +kernel
theorem dX1_isFit_29 : decode cX1_isFit 29 = .ok (.iconst 1, 1) := by decide +kernel
theorem dX1_isFit_30 : decode cX1_isFit 30 = .ok (.goto 4, 3) := by decide +kernel
theorem dX1_isFit_33 : decode cX1_isFit 33 = .ok (.iconst 0, 1) := by decide +kernel
theorem dX1_isFit_34 : decode cX1_isFit 34 = .ok (.ireturn, 1) := by decide +kernel
theorem dX1_leastFitOfHolder_0 : decode cX1_leastFitOfHolder 0 = .ok (.iconst 0, 1) := by decide +kernel
theorem dX1_leastFitOfHolder_1 : decode cX1_leastFitOfHolder 1 = .ok (.istore_n 3, 1) := by decide +kernel
theorem dX1_leastFitOfHolder_2 : decode cX1_leastFitOfHolder 2 = .ok (.iload_n 3, 1) := by decide +kernel
theorem dX1_leastFitOfHolder_3 : decode cX1_leastFitOfHolder 3 = .ok (.iconst 4, 1) := by decide +kernel
theorem dX1_leastFitOfHolder_4 : decode cX1_leastFitOfHolder 4 = .ok (.if_icmp .ge 39, 3) := by decide +kernel
theorem dX1_leastFitOfHolder_7 : decode cX1_leastFitOfHolder 7 = .ok (.aload_n 0, 1) := by decide +kernel
theorem dX1_leastFitOfHolder_8 : decode cX1_leastFitOfHolder 8 = .ok (.getfield 26, 3) := by decide +kernel
theorem dX1_leastFitOfHolder_11 : decode cX1_leastFitOfHolder 11 = .ok (.iload_n 3, 1) := by decide +kernel
theorem dX1_leastFitOfHolder_12 : decode cX1_leastFitOfHolder 12 = .ok (.invokevirtual 118, 3) := by decide +kernel
theorem dX1_leastFitOfHolder_15 : decode cX1_leastFitOfHolder 15 = .ok (.iload_n 1, 1) := by decide +kernel
theorem dX1_leastFitOfHolder_16 : decode cX1_leastFitOfHolder 16 = .ok (.if_icmp .ne 21, 3) := by decide +kernel
theorem dX1_leastFitOfHolder_19 : decode cX1_leastFitOfHolder 19 = .ok (.aload_n 0, 1) := by decide +kernel
theorem dX1_leastFitOfHolder_20 : decode cX1_leastFitOfHolder 20 = .ok (.iload_n 3, 1) := by decide +kernel
theorem dX1_leastFitOfHolder_21 : decode cX1_leastFitOfHolder 21 = .ok (.iload_n 2, 1) := by decide +kernel
theorem dX1_leastFitOfHolder_22 : decode cX1_leastFitOfHolder 22 = .ok (.invokevirtual 124, 3) := by decide +kernel
theorem dX1_leastFitOfHolder_25 : decode cX1_leastFitOfHolder 25 = .ok (.istore 4, 2) := by decide +kernel
theorem dX1_leastFitOfHolder_27 : decode cX1_leastFitOfHolder 27 = .ok (.iload 4, 2) := by decide +kernel
theorem dX1_leastFitOfHolder_29 : decode cX1_leastFitOfHolder 29 = .ok (.bipush (-6), 2) := by decide +kernel
theorem dX1_leastFitOfHolder_31 : decode cX1_leastFitOfHolder 31 = .ok (.if_icmp .eq 6, 3) := by decide +kernel
theorem dX1_leastFitOfHolder_34 : decode cX1_leastFitOfHolder 34 = .ok (.iload 4, 2) := by decide +kernel
theorem dX1_leastFitOfHolder_36 : decode cX1_leastFitOfHolder 36 = .ok (.ireturn, 1) := by decide +kernel
theorem dX1_leastFitOfHolder_37 : decode cX1_leastFitOfHolder 37 = .ok (.iinc 3 1, 3) := by decide +kernel
theorem dX1_leastFitOfHolder_40 : decode cX1_leastFitOfHolder 40 = .ok (.goto (-38), 3) := by decide +kernel
theorem dX1_leastFitOfHolder_43 : decode cX1_leastFitOfHolder 43 = .ok (.bipush (-6), 2) := by decide +kernel
theorem dX1_leastFitOfHolder_45 : decode cX1_leastFitOfHolder 45 = .ok (.ireturn, 1) := by decide +kernel
theorem dX1_leastFitOfBlock_0 : decode cX1_leastFitOfBlock 0 = .ok (.iconst 0, 1) := by decide +kernel
theorem dX1_leastFitOfBlock_1 : decode cX1_leastFitOfBlock 1 = .ok (.istore_n 3, 1) := by decide +kernel
theorem dX1_leastFitOfBlock_2 : decode cX1_leastFitOfBlock 2 = .ok (.iload_n 3, 1) := by decide +kernel
theorem dX1_leastFitOfBlock_3 : decode cX1_leastFitOfBlock 3 = .ok (.iconst 4, 1) := by decide +kernel
theorem dX1_leastFitOfBlock_4 : decode cX1_leastFitOfBlock 4 = .ok (.if_icmp .ge 28, 3) := by decide +kernel
theorem dX1_leastFitOfBlock_7 : decode cX1_leastFitOfBlock 7 = .ok (.aload_n 0, 1) := by decide +kernel
theorem dX1_leastFitOfBlock_8 : decode cX1_leastFitOfBlock 8 = .ok (.iload_n 1, 1) := by decide +kernel
theorem dX1_leastFitOfBlock_9 : decode cX1_leastFitOfBlock 9 = .ok (.iconst 4, 1) := by decide +kernel
theorem dX1_leastFitOfBlock_10 : decode cX1_leastFitOfBlock 10 = .ok (.imul, 1) := by decide +kernel
theorem dX1_leastFitOfBlock_11 : decode cX1_leastFitOfBlock 11 = .ok (.iload_n 3, 1) := by decide +kernel
theorem dX1_leastFitOfBlock_12 : decode cX1_leastFitOfBlock 12 = .ok (.iadd, 1) := by decide +kernel
theorem dX1_leastFitOfBlock_13 : decode cX1_leastFitOfBlock 13 = .ok (.iload_n 2, 1) := by decide +kernel
theorem dX1_leastFitOfBlock_14 : decode cX1_leastFitOfBlock 14 = .ok (.invokevirtual 115, 3) := by decide +kernel
theorem dX1_leastFitOfBlock_17 : decode cX1_leastFitOfBlock 17 = .ok (.ifCond .eq 9, 3) := by decide +kernel
theorem dX1_leastFitOfBlock_20 : decode cX1_leastFitOfBlock 20 = .ok (.iload_n 1, 1) := by decide +kernel
theorem dX1_leastFitOfBlock_21 : decode cX1_leastFitOfBlock 21 = .ok (.iconst 4, 1) := by decide +kernel
theorem dX1_leastFitOfBlock_22 : decode cX1_leastFitOfBlock 22 = .ok (.imul, 1) := by decide +kernel
theorem dX1_leastFitOfBlock_23 : decode cX1_leastFitOfBlock 23 = .ok (.iload_n 3, 1) := by decide +kernel
theorem dX1_leastFitOfBlock_24 : decode cX1_leastFitOfBlock 24 = .ok (.iadd, 1) := by decide +kernel
theorem dX1_leastFitOfBlock_25 : decode cX1_leastFitOfBlock 25 = .ok (.ireturn, 1) := by decide +kernel
theorem dX1_leastFitOfBlock_26 : decode cX1_leastFitOfBlock 26 = .ok (.iinc 3 1, 3) := by decide +kernel
theorem dX1_leastFitOfBlock_29 : decode cX1_leastFitOfBlock 29 = .ok (.goto (-27), 3) := by decide +kernel
theorem dX1_leastFitOfBlock_32 : decode cX1_leastFitOfBlock 32 = .ok (.bipush (-6), 2) := by decide +kernel
theorem dX1_leastFitOfBlock_34 : decode cX1_leastFitOfBlock 34 = .ok (.ireturn, 1) := by decide +kernel
theorem dX1_tellOfBinding_0 : decode cX1_tellOfBinding 0 = .ok (.iload_n 2, 1) := by decide +kernel
theorem dX1_tellOfBinding_1 : decode cX1_tellOfBinding 1 = .ok (.tableswitch 80 0 4 #[35, 45, 55, 61, 70], 35) := by decide +kernel
theorem dX1_tellOfBinding_36 : decode cX1_tellOfBinding 36 = .ok (.aload_n 0, 1) := by decide +kernel
theorem dX1_tellOfBinding_37 : decode cX1_tellOfBinding 37 = .ok (.getfield 26, 3) := by decide +kernel
theorem dX1_tellOfBinding_40 : decode cX1_tellOfBinding 40 = .ok (.getfield 77, 3) := by decide +kernel
theorem dX1_tellOfBinding_43 : decode cX1_tellOfBinding 43 = .ok (.iload_n 1, 1) := by decide +kernel
theorem dX1_tellOfBinding_44 : decode cX1_tellOfBinding 44 = .ok (.iaload, 1) := by decide +kernel
theorem dX1_tellOfBinding_45 : decode cX1_tellOfBinding 45 = .ok (.ireturn, 1) := by decide +kernel
theorem dX1_tellOfBinding_46 : decode cX1_tellOfBinding 46 = .ok (.aload_n 0, 1) := by decide +kernel
theorem dX1_tellOfBinding_47 : decode cX1_tellOfBinding 47 = .ok (.getfield 26, 3) := by decide +kernel
theorem dX1_tellOfBinding_50 : decode cX1_tellOfBinding 50 = .ok (.getfield 63, 3) := by decide +kernel
theorem dX1_tellOfBinding_53 : decode cX1_tellOfBinding 53 = .ok (.iload_n 1, 1) := by decide +kernel
theorem dX1_tellOfBinding_54 : decode cX1_tellOfBinding 54 = .ok (.iaload, 1) := by decide +kernel
theorem dX1_tellOfBinding_55 : decode cX1_tellOfBinding 55 = .ok (.ireturn, 1) := by decide +kernel
theorem dX1_tellOfBinding_56 : decode cX1_tellOfBinding 56 = .ok (.aload_n 0, 1) := by decide +kernel
theorem dX1_tellOfBinding_57 : decode cX1_tellOfBinding 57 = .ok (.iload_n 1, 1) := by decide +kernel
theorem dX1_tellOfBinding_58 : decode cX1_tellOfBinding 58 = .ok (.invokevirtual 127, 3) := by decide +kernel
theorem dX1_tellOfBinding_61 : decode cX1_tellOfBinding 61 = .ok (.ireturn, 1) := by decide +kernel
theorem dX1_tellOfBinding_62 : decode cX1_tellOfBinding 62 = .ok (.aload_n 0, 1) := by decide +kernel
theorem dX1_tellOfBinding_63 : decode cX1_tellOfBinding 63 = .ok (.getfield 26, 3) := by decide +kernel
theorem dX1_tellOfBinding_66 : decode cX1_tellOfBinding 66 = .ok (.iload_n 1, 1) := by decide +kernel
theorem dX1_tellOfBinding_67 : decode cX1_tellOfBinding 67 = .ok (.invokevirtual 130, 3) := by decide +kernel
theorem dX1_tellOfBinding_70 : decode cX1_tellOfBinding 70 = .ok (.ireturn, 1) := by decide +kernel
theorem dX1_tellOfBinding_71 : decode cX1_tellOfBinding 71 = .ok (.aload_n 0, 1) := by decide +kernel
theorem dX1_tellOfBinding_72 : decode cX1_tellOfBinding 72 = .ok (.getfield 26, 3) := by decide +kernel
theorem dX1_tellOfBinding_75 : decode cX1_tellOfBinding 75 = .ok (.getfield 133, 3) := by decide +kernel
theorem dX1_tellOfBinding_78 : decode cX1_tellOfBinding 78 = .ok (.iload_n 1, 1) := by decide +kernel
theorem dX1_tellOfBinding_79 : decode cX1_tellOfBinding 79 = .ok (.iaload, 1) := by decide +kernel
theorem dX1_tellOfBinding_80 : decode cX1_tellOfBinding 80 = .ok (.ireturn, 1) := by decide +kernel
theorem dX1_tellOfBinding_81 : decode cX1_tellOfBinding 81 = .ok (.aload_n 0, 1) := by decide +kernel
theorem dX1_tellOfBinding_82 : decode cX1_tellOfBinding 82 = .ok (.getfield 26, 3) := by decide +kernel
theorem dX1_tellOfBinding_85 : decode cX1_tellOfBinding 85 = .ok (.getfield 136, 3) := by decide +kernel
theorem dX1_tellOfBinding_88 : decode cX1_tellOfBinding 88 = .ok (.iload_n 1, 1) := by decide +kernel
theorem dX1_tellOfBinding_89 : decode cX1_tellOfBinding 89 = .ok (.iaload, 1) := by decide +kernel
theorem dX1_tellOfBinding_90 : decode cX1_tellOfBinding 90 = .ok (.ireturn, 1) := by decide +kernel
theorem dX1_tellOfHost_0 : decode cX1_tellOfHost 0 = .ok (.iload_n 2, 1) := by decide +kernel
theorem dX1_tellOfHost_1 : decode cX1_tellOfHost 1 = .ok (.tableswitch 52 0 2 #[27, 36, 45], 27) := by decide +kernel
theorem dX1_tellOfHost_28 : decode cX1_tellOfHost 28 = .ok (.aload_n 0, 1) := by decide +kernel
theorem dX1_tellOfHost_29 : decode cX1_tellOfHost 29 = .ok (.getfield 26, 3) := by decide +kernel
theorem dX1_tellOfHost_32 : decode cX1_tellOfHost 32 = .ok (.iload_n 1, 1) := by decide +kernel
theorem dX1_tellOfHost_33 : decode cX1_tellOfHost 33 = .ok (.invokevirtual 139, 3) := by decide +kernel
theorem dX1_tellOfHost_36 : decode cX1_tellOfHost 36 = .ok (.ireturn, 1) := by decide +kernel
theorem dX1_tellOfHost_37 : decode cX1_tellOfHost 37 = .ok (.aload_n 0, 1) := by decide +kernel
theorem dX1_tellOfHost_38 : decode cX1_tellOfHost 38 = .ok (.getfield 26, 3) := by decide +kernel
theorem dX1_tellOfHost_41 : decode cX1_tellOfHost 41 = .ok (.iload_n 1, 1) := by decide +kernel
theorem dX1_tellOfHost_42 : decode cX1_tellOfHost 42 = .ok (.invokevirtual 142, 3) := by decide +kernel
theorem dX1_tellOfHost_45 : decode cX1_tellOfHost 45 = .ok (.ireturn, 1) := by decide +kernel
theorem dX1_tellOfHost_46 : decode cX1_tellOfHost 46 = .ok (.aload_n 0, 1) := by decide +kernel
theorem dX1_tellOfHost_47 : decode cX1_tellOfHost 47 = .ok (.iload_n 1, 1) := by decide +kernel
theorem dX1_tellOfHost_48 : decode cX1_tellOfHost 48 = .ok (.iconst 0, 1) := by decide +kernel
theorem dX1_tellOfHost_49 : decode cX1_tellOfHost 49 = .ok (.invokevirtual 145, 3) := by decide +kernel
theorem dX1_tellOfHost_52 : decode cX1_tellOfHost 52 = .ok (.ireturn, 1) := by decide +kernel
theorem dX1_tellOfHost_53 : decode cX1_tellOfHost 53 = .ok (.aload_n 0, 1) := by decide +kernel
theorem dX1_tellOfHost_54 : decode cX1_tellOfHost 54 = .ok (.iload_n 1, 1) := by decide +kernel
theorem dX1_tellOfHost_55 : decode cX1_tellOfHost 55 = .ok (.iconst 1, 1) := by decide +kernel
theorem dX1_tellOfHost_56 : decode cX1_tellOfHost 56 = .ok (.invokevirtual 145, 3) := by decide +kernel
theorem dX1_tellOfHost_59 : decode cX1_tellOfHost 59 = .ok (.ireturn, 1) := by decide +kernel
theorem dX1_countFitFor_0 : decode cX1_countFitFor 0 = .ok (.iconst 0, 1) := by decide +kernel
theorem dX1_countFitFor_1 : decode cX1_countFitFor 1 = .ok (.istore_n 3, 1) := by decide +kernel
theorem dX1_countFitFor_2 : decode cX1_countFitFor 2 = .ok (.iconst 0, 1) := by decide +kernel
theorem dX1_countFitFor_3 : decode cX1_countFitFor 3 = .ok (.istore 4, 2) := by decide +kernel
theorem dX1_countFitFor_5 : decode cX1_countFitFor 5 = .ok (.iload 4, 2) := by decide +kernel
theorem dX1_countFitFor_7 : decode cX1_countFitFor 7 = .ok (.bipush 16, 2) := by decide +kernel
theorem dX1_countFitFor_9 : decode cX1_countFitFor 9 = .ok (.if_icmp .ge 48, 3) := by decide +kernel
theorem dX1_countFitFor_12 : decode cX1_countFitFor 12 = .ok (.aload_n 0, 1) := by decide +kernel
theorem dX1_countFitFor_13 : decode cX1_countFitFor 13 = .ok (.getfield 26, 3) := by decide +kernel
theorem dX1_countFitFor_16 : decode cX1_countFitFor 16 = .ok (.iload 4, 2) := by decide +kernel
theorem dX1_countFitFor_18 : decode cX1_countFitFor 18 = .ok (.iconst 4, 1) := by decide +kernel
theorem dX1_countFitFor_19 : decode cX1_countFitFor 19 = .ok (.idiv, 1) := by decide +kernel
theorem dX1_countFitFor_20 : decode cX1_countFitFor 20 = .ok (.invokevirtual 118, 3) := by decide +kernel
theorem dX1_countFitFor_23 : decode cX1_countFitFor 23 = .ok (.istore 5, 2) := by decide +kernel
theorem dX1_countFitFor_25 : decode cX1_countFitFor 25 = .ok (.iload 5, 2) := by decide +kernel
theorem dX1_countFitFor_27 : decode cX1_countFitFor 27 = .ok (.iload_n 1, 1) := by decide +kernel
theorem dX1_countFitFor_28 : decode cX1_countFitFor 28 = .ok (.if_icmp .eq 10, 3) := by decide +kernel
theorem dX1_countFitFor_31 : decode cX1_countFitFor 31 = .ok (.iload 5, 2) := by decide +kernel
theorem dX1_countFitFor_33 : decode cX1_countFitFor 33 = .ok (.bipush (-6), 2) := by decide +kernel
theorem dX1_countFitFor_35 : decode cX1_countFitFor 35 = .ok (.if_icmp .ne 16, 3) := by decide +kernel
theorem dX1_countFitFor_38 : decode cX1_countFitFor 38 = .ok (.aload_n 0, 1) := by decide +kernel
theorem dX1_countFitFor_39 : decode cX1_countFitFor 39 = .ok (.iload 4, 2) := by decide +kernel
theorem dX1_countFitFor_41 : decode cX1_countFitFor 41 = .ok (.iload_n 2, 1) := by decide +kernel
theorem dX1_countFitFor_42 : decode cX1_countFitFor 42 = .ok (.invokevirtual 115, 3) := by decide +kernel
theorem dX1_countFitFor_45 : decode cX1_countFitFor 45 = .ok (.ifCond .eq 6, 3) := by decide +kernel
theorem dX1_countFitFor_48 : decode cX1_countFitFor 48 = .ok (.iinc 3 1, 3) := by decide +kernel
theorem dX1_countFitFor_51 : decode cX1_countFitFor 51 = .ok (.iinc 4 1, 3) := by decide +kernel
theorem dX1_countFitFor_54 : decode cX1_countFitFor 54 = .ok (.goto (-49), 3) := by decide +kernel
theorem dX1_countFitFor_57 : decode cX1_countFitFor 57 = .ok (.iload_n 3, 1) := by decide +kernel
theorem dX1_countFitFor_58 : decode cX1_countFitFor 58 = .ok (.ireturn, 1) := by decide +kernel
theorem dX1_lifeOf_0 : decode cX1_lifeOf 0 = .ok (.aload_n 0, 1) := by decide +kernel
theorem dX1_lifeOf_1 : decode cX1_lifeOf 1 = .ok (.getfield 26, 3) := by decide +kernel
theorem dX1_lifeOf_4 : decode cX1_lifeOf 4 = .ok (.getfield 63, 3) := by decide +kernel
theorem dX1_lifeOf_7 : decode cX1_lifeOf 7 = .ok (.iload_n 1, 1) := by decide +kernel
theorem dX1_lifeOf_8 : decode cX1_lifeOf 8 = .ok (.iaload, 1) := by decide +kernel
theorem dX1_lifeOf_9 : decode cX1_lifeOf 9 = .ok (.lookupswitch 41 #[(0, 27), (1, 34)], 27) := by decide +kernel
theorem dX1_lifeOf_36 : decode cX1_lifeOf 36 = .ok (.aload_n 0, 1) := by decide +kernel
theorem dX1_lifeOf_37 : decode cX1_lifeOf 37 = .ok (.getfield 18, 3) := by decide +kernel
theorem dX1_lifeOf_40 : decode cX1_lifeOf 40 = .ok (.iconst 3, 1) := by decide +kernel
theorem dX1_lifeOf_41 : decode cX1_lifeOf 41 = .ok (.iaload, 1) := by decide +kernel
theorem dX1_lifeOf_42 : decode cX1_lifeOf 42 = .ok (.ireturn, 1) := by decide +kernel
theorem dX1_lifeOf_43 : decode cX1_lifeOf 43 = .ok (.aload_n 0, 1) := by decide +kernel
theorem dX1_lifeOf_44 : decode cX1_lifeOf 44 = .ok (.getfield 18, 3) := by decide +kernel
theorem dX1_lifeOf_47 : decode cX1_lifeOf 47 = .ok (.iconst 4, 1) := by decide +kernel
theorem dX1_lifeOf_48 : decode cX1_lifeOf 48 = .ok (.iaload, 1) := by decide +kernel
theorem dX1_lifeOf_49 : decode cX1_lifeOf 49 = .ok (.ireturn, 1) := by decide +kernel
theorem dX1_lifeOf_50 : decode cX1_lifeOf 50 = .ok (.aload_n 0, 1) := by decide +kernel
theorem dX1_lifeOf_51 : decode cX1_lifeOf 51 = .ok (.getfield 18, 3) := by decide +kernel
theorem dX1_lifeOf_54 : decode cX1_lifeOf 54 = .ok (.iconst 5, 1) := by decide +kernel
theorem dX1_lifeOf_55 : decode cX1_lifeOf 55 = .ok (.iaload, 1) := by decide +kernel
theorem dX1_lifeOf_56 : decode cX1_lifeOf 56 = .ok (.ireturn, 1) := by decide +kernel
theorem dX1_ticksLeft_0 : decode cX1_ticksLeft 0 = .ok (.aload_n 0, 1) := by decide +kernel
theorem dX1_ticksLeft_1 : decode cX1_ticksLeft 1 = .ok (.getfield 26, 3) := by decide +kernel
theorem dX1_ticksLeft_4 : decode cX1_ticksLeft 4 = .ok (.getfield 60, 3) := by decide +kernel
theorem dX1_ticksLeft_7 : decode cX1_ticksLeft 7 = .ok (.iload_n 1, 1) := by decide +kernel
theorem dX1_ticksLeft_8 : decode cX1_ticksLeft 8 = .ok (.iaload, 1) := by decide +kernel
theorem dX1_ticksLeft_9 : decode cX1_ticksLeft 9 = .ok (.aload_n 0, 1) := by decide +kernel
theorem dX1_ticksLeft_10 : decode cX1_ticksLeft 10 = .ok (.iload_n 1, 1) := by decide +kernel
theorem dX1_ticksLeft_11 : decode cX1_ticksLeft 11 = .ok (.invokevirtual 148, 3) := by decide +kernel
theorem dX1_ticksLeft_14 : decode cX1_ticksLeft 14 = .ok (.iadd, 1) := by decide +kernel
theorem dX1_ticksLeft_15 : decode cX1_ticksLeft 15 = .ok (.aload_n 0, 1) := by decide +kernel
theorem dX1_ticksLeft_16 : decode cX1_ticksLeft 16 = .ok (.getfield 37, 3) := by decide +kernel
theorem dX1_ticksLeft_19 : decode cX1_ticksLeft 19 = .ok (.isub, 1) := by decide +kernel
theorem dX1_ticksLeft_20 : decode cX1_ticksLeft 20 = .ok (.ireturn, 1) := by decide +kernel
theorem dX1_leastTicksLeft_0 : decode cX1_leastTicksLeft 0 = .ok (.bipush (-6), 2) := by decide +kernel
theorem dX1_leastTicksLeft_2 : decode cX1_leastTicksLeft 2 = .ok (.istore_n 1, 1) := by decide +kernel
theorem dX1_leastTicksLeft_3 : decode cX1_leastTicksLeft 3 = .ok (.iconst 0, 1) := by decide +kernel
theorem dX1_leastTicksLeft_4 : decode cX1_leastTicksLeft 4 = .ok (.istore_n 2, 1) := by decide +kernel
theorem dX1_leastTicksLeft_5 : decode cX1_leastTicksLeft 5 = .ok (.iload_n 2, 1) := by decide +kernel
theorem dX1_leastTicksLeft_6 : decode cX1_leastTicksLeft 6 = .ok (.bipush 16, 2) := by decide +kernel
theorem dX1_leastTicksLeft_8 : decode cX1_leastTicksLeft 8 = .ok (.if_icmp .ge 41, 3) := by decide +kernel
theorem dX1_leastTicksLeft_11 : decode cX1_leastTicksLeft 11 = .ok (.aload_n 0, 1) := by decide +kernel
theorem dX1_leastTicksLeft_12 : decode cX1_leastTicksLeft 12 = .ok (.getfield 26, 3) := by decide +kernel
theorem dX1_leastTicksLeft_15 : decode cX1_leastTicksLeft 15 = .ok (.iload_n 2, 1) := by decide +kernel
theorem dX1_leastTicksLeft_16 : decode cX1_leastTicksLeft 16 = .ok (.invokevirtual 80, 3) := by decide +kernel
theorem dX1_leastTicksLeft_19 : decode cX1_leastTicksLeft 19 = .ok (.ifCond .eq 24, 3) := by decide +kernel
theorem dX1_leastTicksLeft_22 : decode cX1_leastTicksLeft 22 = .ok (.iload_n 1, 1) := by decide +kernel
theorem dX1_leastTicksLeft_23 : decode cX1_leastTicksLeft 23 = .ok (.bipush (-6), 2) := by decide +kernel
theorem dX1_leastTicksLeft_25 : decode cX1_leastTicksLeft 25 = .ok (.if_icmp .eq 12, 3) := by decide +kernel
theorem dX1_leastTicksLeft_28 : decode cX1_leastTicksLeft 28 = .ok (.aload_n 0, 1) := by decide +kernel
theorem dX1_leastTicksLeft_29 : decode cX1_leastTicksLeft 29 = .ok (.iload_n 2, 1) := by decide +kernel
theorem dX1_leastTicksLeft_30 : decode cX1_leastTicksLeft 30 = .ok (.invokevirtual 127, 3) := by decide +kernel
theorem dX1_leastTicksLeft_33 : decode cX1_leastTicksLeft 33 = .ok (.iload_n 1, 1) := by decide +kernel
theorem dX1_leastTicksLeft_34 : decode cX1_leastTicksLeft 34 = .ok (.if_icmp .ge 9, 3) := by decide +kernel
theorem dX1_leastTicksLeft_37 : decode cX1_leastTicksLeft 37 = .ok (.aload_n 0, 1) := by decide +kernel
theorem dX1_leastTicksLeft_38 : decode cX1_leastTicksLeft 38 = .ok (.iload_n 2, 1) := by decide +kernel
theorem dX1_leastTicksLeft_39 : decode cX1_leastTicksLeft 39 = .ok (.invokevirtual 127, 3) := by decide +kernel
theorem dX1_leastTicksLeft_42 : decode cX1_leastTicksLeft 42 = .ok (.istore_n 1, 1) := by decide +kernel
theorem dX1_leastTicksLeft_43 : decode cX1_leastTicksLeft 43 = .ok (.iinc 2 1, 3) := by decide +kernel
theorem dX1_leastTicksLeft_46 : decode cX1_leastTicksLeft 46 = .ok (.goto (-41), 3) := by decide +kernel
theorem dX1_leastTicksLeft_49 : decode cX1_leastTicksLeft 49 = .ok (.iload_n 1, 1) := by decide +kernel
theorem dX1_leastTicksLeft_50 : decode cX1_leastTicksLeft 50 = .ok (.ireturn, 1) := by decide +kernel
theorem dX1_endLapsed_0 : decode cX1_endLapsed 0 = .ok (.iconst 0, 1) := by decide +kernel
theorem dX1_endLapsed_1 : decode cX1_endLapsed 1 = .ok (.istore_n 1, 1) := by decide +kernel
theorem dX1_endLapsed_2 : decode cX1_endLapsed 2 = .ok (.iconst 0, 1) := by decide +kernel
theorem dX1_endLapsed_3 : decode cX1_endLapsed 3 = .ok (.istore_n 2, 1) := by decide +kernel
theorem dX1_endLapsed_4 : decode cX1_endLapsed 4 = .ok (.iload_n 2, 1) := by decide +kernel
theorem dX1_endLapsed_5 : decode cX1_endLapsed 5 = .ok (.bipush 16, 2) := by decide +kernel
theorem dX1_endLapsed_7 : decode cX1_endLapsed 7 = .ok (.if_icmp .ge 36, 3) := by decide +kernel
theorem dX1_endLapsed_10 : decode cX1_endLapsed 10 = .ok (.aload_n 0, 1) := by decide +kernel
theorem dX1_endLapsed_11 : decode cX1_endLapsed 11 = .ok (.getfield 26, 3) := by decide +kernel
theorem dX1_endLapsed_14 : decode cX1_endLapsed 14 = .ok (.iload_n 2, 1) := by decide +kernel
theorem dX1_endLapsed_15 : decode cX1_endLapsed 15 = .ok (.invokevirtual 80, 3) := by decide +kernel
theorem dX1_endLapsed_18 : decode cX1_endLapsed 18 = .ok (.ifCond .eq 19, 3) := by decide +kernel
theorem dX1_endLapsed_21 : decode cX1_endLapsed 21 = .ok (.aload_n 0, 1) := by decide +kernel
theorem dX1_endLapsed_22 : decode cX1_endLapsed 22 = .ok (.iload_n 2, 1) := by decide +kernel
theorem dX1_endLapsed_23 : decode cX1_endLapsed 23 = .ok (.invokevirtual 127, 3) := by decide +kernel
theorem dX1_endLapsed_26 : decode cX1_endLapsed 26 = .ok (.ifCond .gt 11, 3) := by decide +kernel
theorem dX1_endLapsed_29 : decode cX1_endLapsed 29 = .ok (.aload_n 0, 1) := by decide +kernel
theorem dX1_endLapsed_30 : decode cX1_endLapsed 30 = .ok (.iload_n 2, 1) := by decide +kernel
theorem dX1_endLapsed_31 : decode cX1_endLapsed 31 = .ok (.invokevirtual 151, 3) := by decide +kernel
theorem dX1_endLapsed_34 : decode cX1_endLapsed 34 = .ok (.iinc 1 1, 3) := by decide +kernel
theorem dX1_endLapsed_37 : decode cX1_endLapsed 37 = .ok (.iinc 2 1, 3) := by decide +kernel
theorem dX1_endLapsed_40 : decode cX1_endLapsed 40 = .ok (.goto (-36), 3) := by decide +kernel
theorem dX1_endLapsed_43 : decode cX1_endLapsed 43 = .ok (.iload_n 1, 1) := by decide +kernel
theorem dX1_endLapsed_44 : decode cX1_endLapsed 44 = .ok (.ireturn, 1) := by decide +kernel
theorem dX1_endBindingsOf_0 : decode cX1_endBindingsOf 0 = .ok (.iconst 0, 1) := by decide +kernel
theorem dX1_endBindingsOf_1 : decode cX1_endBindingsOf 1 = .ok (.istore_n 2, 1) := by decide +kernel
theorem dX1_endBindingsOf_2 : decode cX1_endBindingsOf 2 = .ok (.iconst 0, 1) := by decide +kernel
theorem dX1_endBindingsOf_3 : decode cX1_endBindingsOf 3 = .ok (.istore_n 3, 1) := by decide +kernel
theorem dX1_endBindingsOf_4 : decode cX1_endBindingsOf 4 = .ok (.iload_n 3, 1) := by decide +kernel
theorem dX1_endBindingsOf_5 : decode cX1_endBindingsOf 5 = .ok (.bipush 16, 2) := by decide +kernel
theorem dX1_endBindingsOf_7 : decode cX1_endBindingsOf 7 = .ok (.if_icmp .ge 29, 3) := by decide +kernel
theorem dX1_endBindingsOf_10 : decode cX1_endBindingsOf 10 = .ok (.aload_n 0, 1) := by decide +kernel
theorem dX1_endBindingsOf_11 : decode cX1_endBindingsOf 11 = .ok (.getfield 26, 3) := by decide +kernel
theorem dX1_endBindingsOf_14 : decode cX1_endBindingsOf 14 = .ok (.iload_n 3, 1) := by decide +kernel
theorem dX1_endBindingsOf_15 : decode cX1_endBindingsOf 15 = .ok (.invokevirtual 154, 3) := by decide +kernel
theorem dX1_endBindingsOf_18 : decode cX1_endBindingsOf 18 = .ok (.iload_n 1, 1) := by decide +kernel
theorem dX1_endBindingsOf_19 : decode cX1_endBindingsOf 19 = .ok (.if_icmp .ne 11, 3) := by decide +kernel
theorem dX1_endBindingsOf_22 : decode cX1_endBindingsOf 22 = .ok (.aload_n 0, 1) := by decide +kernel
theorem dX1_endBindingsOf_23 : decode cX1_endBindingsOf 23 = .ok (.iload_n 3, 1) := by decide +kernel
theorem dX1_endBindingsOf_24 : decode cX1_endBindingsOf 24 = .ok (.invokevirtual 151, 3) := by decide +kernel
theorem dX1_endBindingsOf_27 : decode cX1_endBindingsOf 27 = .ok (.iinc 2 1, 3) := by decide +kernel
theorem dX1_endBindingsOf_30 : decode cX1_endBindingsOf 30 = .ok (.iinc 3 1, 3) := by decide +kernel
theorem dX1_endBindingsOf_33 : decode cX1_endBindingsOf 33 = .ok (.goto (-29), 3) := by decide +kernel
theorem dX1_endBindingsOf_36 : decode cX1_endBindingsOf 36 = .ok (.iload_n 2, 1) := by decide +kernel
theorem dX1_endBindingsOf_37 : decode cX1_endBindingsOf 37 = .ok (.ireturn, 1) := by decide +kernel
theorem dX1_endAll_0 : decode cX1_endAll 0 = .ok (.iconst 0, 1) := by decide +kernel
theorem dX1_endAll_1 : decode cX1_endAll 1 = .ok (.istore_n 1, 1) := by decide +kernel
theorem dX1_endAll_2 : decode cX1_endAll 2 = .ok (.iload_n 1, 1) := by decide +kernel
theorem dX1_endAll_3 : decode cX1_endAll 3 = .ok (.bipush 16, 2) := by decide +kernel
theorem dX1_endAll_5 : decode cX1_endAll 5 = .ok (.if_icmp .ge 14, 3) := by decide +kernel
theorem dX1_endAll_8 : decode cX1_endAll 8 = .ok (.aload_n 0, 1) := by decide +kernel
theorem dX1_endAll_9 : decode cX1_endAll 9 = .ok (.iload_n 1, 1) := by decide +kernel
theorem dX1_endAll_10 : decode cX1_endAll 10 = .ok (.invokevirtual 151, 3) := by decide +kernel
theorem dX1_endAll_13 : decode cX1_endAll 13 = .ok (.iinc 1 1, 3) := by decide +kernel
theorem dX1_endAll_16 : decode cX1_endAll 16 = .ok (.goto (-14), 3) := by decide +kernel
theorem dX1_endAll_19 : decode cX1_endAll 19 = .ok (.return_, 1) := by decide +kernel
theorem dX1_endBinding_0 : decode cX1_endBinding 0 = .ok (.aload_n 0, 1) := by decide +kernel
theorem dX1_endBinding_1 : decode cX1_endBinding 1 = .ok (.getfield 26, 3) := by decide +kernel
theorem dX1_endBinding_4 : decode cX1_endBinding 4 = .ok (.iload_n 1, 1) := by decide +kernel
theorem dX1_endBinding_5 : decode cX1_endBinding 5 = .ok (.invokevirtual 157, 3) := by decide +kernel
theorem dX1_endBinding_8 : decode cX1_endBinding 8 = .ok (.aload_n 0, 1) := by decide +kernel
theorem dX1_endBinding_9 : decode cX1_endBinding 9 = .ok (.getfield 33, 3) := by decide +kernel
theorem dX1_endBinding_12 : decode cX1_endBinding 12 = .ok (.iload_n 1, 1) := by decide +kernel
theorem dX1_endBinding_13 : decode cX1_endBinding 13 = .ok (.invokevirtual 160, 3) := by decide +kernel
theorem dX1_endBinding_16 : decode cX1_endBinding 16 = .ok (.return_, 1) := by decide +kernel
theorem dX1_becomeLike_0 : decode cX1_becomeLike 0 = .ok (.aload_n 1, 1) := by decide +kernel
theorem dX1_becomeLike_1 : decode cX1_becomeLike 1 = .ok (.getfield 18, 3) := by decide +kernel
theorem dX1_becomeLike_4 : decode cX1_becomeLike 4 = .ok (.iconst 0, 1) := by decide +kernel
theorem dX1_becomeLike_5 : decode cX1_becomeLike 5 = .ok (.aload_n 0, 1) := by decide +kernel
theorem dX1_becomeLike_6 : decode cX1_becomeLike 6 = .ok (.getfield 18, 3) := by decide +kernel
theorem dX1_becomeLike_9 : decode cX1_becomeLike 9 = .ok (.iconst 0, 1) := by decide +kernel
theorem dX1_becomeLike_10 : decode cX1_becomeLike 10 = .ok (.bipush 6, 2) := by decide +kernel
theorem dX1_becomeLike_12 : decode cX1_becomeLike 12 = .ok (.invokestatic 163, 3) := by decide +kernel
theorem dX1_becomeLike_15 : decode cX1_becomeLike 15 = .ok (.aload_n 0, 1) := by decide +kernel
theorem dX1_becomeLike_16 : decode cX1_becomeLike 16 = .ok (.getfield 26, 3) := by decide +kernel
theorem dX1_becomeLike_19 : decode cX1_becomeLike 19 = .ok (.aload_n 1, 1) := by decide +kernel
theorem dX1_becomeLike_20 : decode cX1_becomeLike 20 = .ok (.getfield 26, 3) := by decide +kernel
theorem dX1_becomeLike_23 : decode cX1_becomeLike 23 = .ok (.invokevirtual 169, 3) := by decide +kernel
theorem dX1_becomeLike_26 : decode cX1_becomeLike 26 = .ok (.aload_n 0, 1) := by decide +kernel
theorem dX1_becomeLike_27 : decode cX1_becomeLike 27 = .ok (.getfield 33, 3) := by decide +kernel
theorem dX1_becomeLike_30 : decode cX1_becomeLike 30 = .ok (.aload_n 1, 1) := by decide +kernel
theorem dX1_becomeLike_31 : decode cX1_becomeLike 31 = .ok (.getfield 33, 3) := by decide +kernel
theorem dX1_becomeLike_34 : decode cX1_becomeLike 34 = .ok (.invokevirtual 173, 3) := by decide +kernel
theorem dX1_becomeLike_37 : decode cX1_becomeLike 37 = .ok (.aload_n 0, 1) := by decide +kernel
theorem dX1_becomeLike_38 : decode cX1_becomeLike 38 = .ok (.aload_n 1, 1) := by decide +kernel
theorem dX1_becomeLike_39 : decode cX1_becomeLike 39 = .ok (.getfield 37, 3) := by decide +kernel
theorem dX1_becomeLike_42 : decode cX1_becomeLike 42 = .ok (.putfield 37, 3) := by decide +kernel
theorem dX1_becomeLike_45 : decode cX1_becomeLike 45 = .ok (.return_, 1) := by decide +kernel
end
section
theorem dX3_init_0 : decode cX3_init 0 = .ok (.aload_n 0, 1) := by decide +kernel
theorem dX3_init_1 : decode cX3_init 1 = .ok (.invokespecial 1, 3) := by decide +kernel
theorem dX3_init_4 : decode cX3_init 4 = .ok (.aload_n 0, 1) := by decide +kernel
theorem dX3_init_5 : decode cX3_init 5 = .ok (.new 7, 3) := by decide +kernel
theorem dX3_init_8 : decode cX3_init 8 = .ok (.dup, 1) := by decide +kernel
theorem dX3_init_9 : decode cX3_init 9 = .ok (.invokespecial 9, 3) := by decide +kernel
theorem dX3_init_12 : decode cX3_init 12 = .ok (.putfield 10, 3) := by decide +kernel
theorem dX3_init_15 : decode cX3_init 15 = .ok (.aload_n 0, 1) := by decide +kernel
theorem dX3_init_16 : decode cX3_init 16 = .ok (.iconst 2, 1) := by decide +kernel
theorem dX3_init_17 : decode cX3_init 17 = .ok (.anewarray 7, 3) := by decide +kernel
theorem dX3_init_20 : decode cX3_init 20 = .ok (.dup, 1) := by decide +kernel
theorem dX3_init_21 : decode cX3_init 21 = .ok (.iconst 0, 1) := by decide +kernel
theorem dX3_init_22 : decode cX3_init 22 = .ok (.new 7, 3) := by decide +kernel
theorem dX3_init_25 : decode cX3_init 25 = .ok (.dup, 1) := by decide +kernel
theorem dX3_init_26 : decode cX3_init 26 = .ok (.invokespecial 9, 3) := by decide +kernel
theorem dX3_init_29 : decode cX3_init 29 = .ok (.aastore, 1) := by decide +kernel
theorem dX3_init_30 : decode cX3_init 30 = .ok (.dup, 1) := by decide +kernel
theorem dX3_init_31 : decode cX3_init 31 = .ok (.iconst 1, 1) := by decide +kernel
theorem dX3_init_32 : decode cX3_init 32 = .ok (.new 7, 3) := by decide +kernel
theorem dX3_init_35 : decode cX3_init 35 = .ok (.dup, 1) := by decide +kernel
theorem dX3_init_36 : decode cX3_init 36 = .ok (.invokespecial 9, 3) := by decide +kernel
theorem dX3_init_39 : decode cX3_init 39 = .ok (.aastore, 1) := by decide +kernel
theorem dX3_init_40 : decode cX3_init 40 = .ok (.putfield 16, 3) := by decide +kernel
theorem dX3_init_43 : decode cX3_init 43 = .ok (.aload_n 0, 1) := by decide +kernel
theorem dX3_init_44 : decode cX3_init 44 = .ok (.iconst 2, 1) := by decide +kernel
theorem dX3_init_45 : decode cX3_init 45 = .ok (.newarray .boolean, 2) := by decide +kernel
theorem dX3_init_47 : decode cX3_init 47 = .ok (.putfield 20, 3) := by decide +kernel
theorem dX3_init_50 : decode cX3_init 50 = .ok (.return_, 1) := by decide +kernel
theorem dX3_rule_0 : decode cX3_rule 0 = .ok (.iload_n 1, 1) := by decide +kernel
theorem dX3_rule_1 : decode cX3_rule 1 = .ok (.bipush 6, 2) := by decide +kernel
theorem dX3_rule_3 : decode cX3_rule 3 = .ok (.invokestatic 24, 3) := by decide +kernel
theorem dX3_rule_6 : decode cX3_rule 6 = .ok (.ifCond .eq 21, 3) := by decide +kernel
theorem dX3_rule_9 : decode cX3_rule 9 = .ok (.iload_n 2, 1) := by decide +kernel
theorem dX3_rule_10 : decode cX3_rule 10 = .ok (.getstatic 28, 3) := by decide +kernel
theorem dX3_rule_13 : decode cX3_rule 13 = .ok (.iload_n 1, 1) := by decide +kernel
theorem dX3_rule_14 : decode cX3_rule 14 = .ok (.iaload, 1) := by decide +kernel
theorem dX3_rule_15 : decode cX3_rule 15 = .ok (.if_icmp .lt 12, 3) := by decide +kernel
theorem dX3_rule_18 : decode cX3_rule 18 = .ok (.iload_n 2, 1) := by decide +kernel
theorem dX3_rule_19 : decode cX3_rule 19 = .ok (.getstatic 32, 3) := by decide +kernel
theorem dX3_rule_22 : decode cX3_rule 22 = .ok (.iload_n 1, 1) := by decide +kernel
theorem dX3_rule_23 : decode cX3_rule 23 = .ok (.iaload, 1) := by decide +kernel
theorem dX3_rule_24 : decode cX3_rule 24 = .ok (.if_icmp .le 6, 3) := by decide +kernel
theorem dX3_rule_27 : decode cX3_rule 27 = .ok (.bipush (-2), 2) := by decide +kernel
theorem dX3_rule_29 : decode cX3_rule 29 = .ok (.ireturn, 1) := by decide +kernel
theorem dX3_rule_30 : decode cX3_rule 30 = .ok (.aload_n 0, 1) := by decide +kernel
theorem dX3_rule_31 : decode cX3_rule 31 = .ok (.getfield 10, 3) := by decide +kernel
theorem dX3_rule_34 : decode cX3_rule 34 = .ok (.iload_n 1, 1) := by decide +kernel
theorem dX3_rule_35 : decode cX3_rule 35 = .ok (.iload_n 2, 1) := by decide +kernel
theorem dX3_rule_36 : decode cX3_rule 36 = .ok (.invokevirtual 35, 3) := by decide +kernel
theorem dX3_rule_39 : decode cX3_rule 39 = .ok (.ireturn, 1) := by decide +kernel
theorem dX3_out_0 : decode cX3_out 0 = .ok (.iload_n 1, 1) := by decide +kernel
theorem dX3_out_1 : decode cX3_out 1 = .ok (.iconst 4, 1) := by decide +kernel
theorem dX3_out_2 : decode cX3_out 2 = .ok (.invokestatic 24, 3) := by decide +kernel
theorem dX3_out_5 : decode cX3_out 5 = .ok (.ifCond .ne 5, 3) := by decide +kernel
theorem dX3_out_8 : decode cX3_out 8 = .ok (.iconst (-1), 1) := by decide +kernel
theorem dX3_out_9 : decode cX3_out 9 = .ok (.ireturn, 1) := by decide +kernel
theorem dX3_out_10 : decode cX3_out 10 = .ok (.iload_n 2, 1) := by decide +kernel
theorem dX3_out_11 : decode cX3_out 11 = .ok (.bipush 32, 2) := by decide +kernel
theorem dX3_out_13 : decode cX3_out 13 = .ok (.invokestatic 24, 3) := by decide +kernel
theorem dX3_out_16 : decode cX3_out 16 = .ok (.ifCond .eq 21, 3) := by decide +kernel
theorem dX3_out_19 : decode cX3_out 19 = .ok (.iload_n 3, 1) := by decide +kernel
theorem dX3_out_20 : decode cX3_out 20 = .ok (.iload 4, 2) := by decide +kernel
theorem dX3_out_22 : decode cX3_out 22 = .ok (.invokestatic 39, 3) := by decide +kernel
theorem dX3_out_25 : decode cX3_out 25 = .ok (.ifCond .eq 12, 3) := by decide +kernel
theorem dX3_out_28 : decode cX3_out 28 = .ok (.iload 5, 2) := by decide +kernel
theorem dX3_out_30 : decode cX3_out 30 = .ok (.iconst 3, 1) := by decide +kernel
theorem dX3_out_31 : decode cX3_out 31 = .ok (.invokestatic 24, 3) := by decide +kernel
theorem dX3_out_34 : decode cX3_out 34 = .ok (.ifCond .ne 6, 3) := by decide +kernel
theorem dX3_out_37 : decode cX3_out 37 = .ok (.bipush (-2), 2) := by decide +kernel
theorem dX3_out_39 : decode cX3_out 39 = .ok (.ireturn, 1) := by decide +kernel
theorem dX3_out_40 : decode cX3_out 40 = .ok (.aload_n 0, 1) := by decide +kernel
theorem dX3_out_41 : decode cX3_out 41 = .ok (.getfield 10, 3) := by decide +kernel
theorem dX3_out_44 : decode cX3_out 44 = .ok (.iload_n 1, 1) := by decide +kernel
theorem dX3_out_45 : decode cX3_out 45 = .ok (.iload_n 2, 1) := by decide +kernel
theorem dX3_out_46 : decode cX3_out 46 = .ok (.iload_n 3, 1) := by decide +kernel
theorem dX3_out_47 : decode cX3_out 47 = .ok (.iload 4, 2) := by decide +kernel
theorem dX3_out_49 : decode cX3_out 49 = .ok (.iload 5, 2) := by decide +kernel
theorem dX3_out_51 : decode cX3_out 51 = .ok (.invokevirtual 42, 3) := by decide +kernel
theorem dX3_out_54 : decode cX3_out 54 = .ok (.ireturn, 1) := by decide +kernel
theorem dX3_in_0 : decode cX3_in 0 = .ok (.iload_n 1, 1) := by decide +kernel
theorem dX3_in_1 : decode cX3_in 1 = .ok (.iload_n 2, 1) := by decide +kernel
theorem dX3_in_2 : decode cX3_in 2 = .ok (.invokestatic 39, 3) := by decide +kernel
theorem dX3_in_5 : decode cX3_in 5 = .ok (.ifCond .ne 6, 3) := by decide +kernel
theorem dX3_in_8 : decode cX3_in 8 = .ok (.bipush (-2), 2) := by decide +kernel
theorem dX3_in_10 : decode cX3_in 10 = .ok (.ireturn, 1) := by decide +kernel
theorem dX3_in_11 : decode cX3_in 11 = .ok (.iload_n 3, 1) := by decide +kernel
theorem dX3_in_12 : decode cX3_in 12 = .ok (.bipush 16, 2) := by decide +kernel
theorem dX3_in_14 : decode cX3_in 14 = .ok (.invokestatic 24, 3) := by decide +kernel
theorem dX3_in_17 : decode cX3_in 17 = .ok (.ifCond .ne 5, 3) := by decide +kernel
theorem dX3_in_20 : decode cX3_in 20 = .ok (.iconst (-1), 1) := by decide +kernel
theorem dX3_in_21 : decode cX3_in 21 = .ok (.ireturn, 1) := by decide +kernel
theorem dX3_in_22 : decode cX3_in 22 = .ok (.iload 4, 2) := by decide +kernel
theorem dX3_in_24 : decode cX3_in 24 = .ok (.iconst 3, 1) := by decide +kernel
theorem dX3_in_25 : decode cX3_in 25 = .ok (.invokestatic 24, 3) := by decide +kernel
theorem dX3_in_28 : decode cX3_in 28 = .ok (.ifCond .ne 6, 3) := by decide +kernel
theorem dX3_in_31 : decode cX3_in 31 = .ok (.bipush (-2), 2) := by decide +kernel
theorem dX3_in_33 : decode cX3_in 33 = .ok (.ireturn, 1) := by decide +kernel
theorem dX3_in_34 : decode cX3_in 34 = .ok (.aload_n 0, 1) := by decide +kernel
theorem dX3_in_35 : decode cX3_in 35 = .ok (.getfield 10, 3) := by decide +kernel
theorem dX3_in_38 : decode cX3_in 38 = .ok (.iload_n 1, 1) := by decide +kernel
theorem dX3_in_39 : decode cX3_in 39 = .ok (.iload_n 2, 1) := by decide +kernel
theorem dX3_in_40 : decode cX3_in 40 = .ok (.iload_n 3, 1) := by decide +kernel
theorem dX3_in_41 : decode cX3_in 41 = .ok (.iload 4, 2) := by decide +kernel
theorem dX3_in_43 : decode cX3_in 43 = .ok (.invokevirtual 46, 3) := by decide +kernel
theorem dX3_in_46 : decode cX3_in 46 = .ok (.ireturn, 1) := by decide +kernel
theorem dX3_turn_0 : decode cX3_turn 0 = .ok (.iload_n 1, 1) := by decide +kernel
theorem dX3_turn_1 : decode cX3_turn 1 = .ok (.iconst 4, 1) := by decide +kernel
theorem dX3_turn_2 : decode cX3_turn 2 = .ok (.invokestatic 24, 3) := by decide +kernel
theorem dX3_turn_5 : decode cX3_turn 5 = .ok (.ifCond .ne 5, 3) := by decide +kernel
theorem dX3_turn_8 : decode cX3_turn 8 = .ok (.iconst (-1), 1) := by decide +kernel
theorem dX3_turn_9 : decode cX3_turn 9 = .ok (.ireturn, 1) := by decide +kernel
theorem dX3_turn_10 : decode cX3_turn 10 = .ok (.iload_n 2, 1) := by decide +kernel
theorem dX3_turn_11 : decode cX3_turn 11 = .ok (.bipush 32, 2) := by decide +kernel
theorem dX3_turn_13 : decode cX3_turn 13 = .ok (.invokestatic 24, 3) := by decide +kernel
theorem dX3_turn_16 : decode cX3_turn 16 = .ok (.ifCond .ne 6, 3) := by decide +kernel
theorem dX3_turn_19 : decode cX3_turn 19 = .ok (.bipush (-2), 2) := by decide +kernel
theorem dX3_turn_21 : decode cX3_turn 21 = .ok (.ireturn, 1) := by decide +kernel
theorem dX3_turn_22 : decode cX3_turn 22 = .ok (.iload_n 3, 1) := by decide +kernel
theorem dX3_turn_23 : decode cX3_turn 23 = .ok (.bipush 16, 2) := by decide +kernel
theorem dX3_turn_25 : decode cX3_turn 25 = .ok (.invokestatic 24, 3) := by decide +kernel
theorem dX3_turn_28 : decode cX3_turn 28 = .ok (.ifCond .ne 5, 3) := by decide +kernel
theorem dX3_turn_31 : decode cX3_turn 31 = .ok (.iconst (-1), 1) := by decide +kernel
theorem dX3_turn_32 : decode cX3_turn 32 = .ok (.ireturn, 1) := by decide +kernel
theorem dX3_turn_33 : decode cX3_turn 33 = .ok (.iload 4, 2) := by decide +kernel
theorem dX3_turn_35 : decode cX3_turn 35 = .ok (.iconst 3, 1) := by decide +kernel
theorem dX3_turn_36 : decode cX3_turn 36 = .ok (.invokestatic 24, 3) := by decide +kernel
theorem dX3_turn_39 : decode cX3_turn 39 = .ok (.ifCond .ne 6, 3) := by decide +kernel
theorem dX3_turn_42 : decode cX3_turn 42 = .ok (.bipush (-2), 2) := by decide +kernel
theorem dX3_turn_44 : decode cX3_turn 44 = .ok (.ireturn, 1) := by decide +kernel
theorem dX3_turn_45 : decode cX3_turn 45 = .ok (.aload_n 0, 1) := by decide +kernel
theorem dX3_turn_46 : decode cX3_turn 46 = .ok (.getfield 10, 3) := by decide +kernel
theorem dX3_turn_49 : decode cX3_turn 49 = .ok (.iload_n 1, 1) := by decide +kernel
theorem dX3_turn_50 : decode cX3_turn 50 = .ok (.iload_n 2, 1) := by decide +kernel
theorem dX3_turn_51 : decode cX3_turn 51 = .ok (.iconst 4, 1) := by decide +kernel
theorem dX3_turn_52 : decode cX3_turn 52 = .ok (.iload_n 3, 1) := by decide +kernel
theorem dX3_turn_53 : decode cX3_turn 53 = .ok (.iload 4, 2) := by decide +kernel
theorem dX3_turn_55 : decode cX3_turn 55 = .ok (.invokevirtual 42, 3) := by decide +kernel
theorem dX3_turn_58 : decode cX3_turn 58 = .ok (.istore 5, 2) := by decide +kernel
theorem dX3_turn_60 : decode cX3_turn 60 = .ok (.iload 5, 2) := by decide +kernel
theorem dX3_turn_62 : decode cX3_turn 62 = .ok (.bipush (-5), 2) := by decide +kernel
theorem dX3_turn_64 : decode cX3_turn 64 = .ok (.if_icmp .ne 8, 3) := by decide +kernel
theorem dX3_turn_67 : decode cX3_turn 67 = .ok (.bipush (-5), 2) := by decide +kernel
theorem dX3_turn_69 : decode cX3_turn 69 = .ok (.goto 16, 3) := by decide +kernel
theorem dX3_turn_72 : decode cX3_turn 72 = .ok (.aload_n 0, 1) := by decide +kernel
theorem dX3_turn_73 : decode cX3_turn 73 = .ok (.getfield 10, 3) := by decide +kernel
theorem dX3_turn_76 : decode cX3_turn 76 = .ok (.iconst 4, 1) := by decide +kernel
theorem dX3_turn_77 : decode cX3_turn 77 = .ok (.iload 5, 2) := by decide +kernel
theorem dX3_turn_79 : decode cX3_turn 79 = .ok (.iload_n 3, 1) := by decide +kernel
theorem dX3_turn_80 : decode cX3_turn 80 = .ok (.iload 4, 2) := by decide +kernel
theorem dX3_turn_82 : decode cX3_turn 82 = .ok (.invokevirtual 46, 3) := by decide +kernel
theorem dX3_turn_85 : decode cX3_turn 85 = .ok (.ireturn, 1) := by decide +kernel
theorem dX3_part_0 : decode cX3_part 0 = .ok (.iload_n 1, 1) := by decide +kernel
theorem dX3_part_1 : decode cX3_part 1 = .ok (.iconst 4, 1) := by decide +kernel
theorem dX3_part_2 : decode cX3_part 2 = .ok (.invokestatic 24, 3) := by decide +kernel
theorem dX3_part_5 : decode cX3_part 5 = .ok (.ifCond .eq 21, 3) := by decide +kernel
theorem dX3_part_8 : decode cX3_part 8 = .ok (.iload_n 2, 1) := by decide +kernel
theorem dX3_part_9 : decode cX3_part 9 = .ok (.bipush 8, 2) := by decide +kernel
theorem dX3_part_11 : decode cX3_part 11 = .ok (.invokestatic 24, 3) := by decide +kernel
theorem dX3_part_14 : decode cX3_part 14 = .ok (.ifCond .eq 12, 3) := by decide +kernel
theorem dX3_part_17 : decode cX3_part 17 = .ok (.iload_n 3, 1) := by decide +kernel
theorem dX3_part_18 : decode cX3_part 18 = .ok (.bipush 8, 2) := by decide +kernel
theorem dX3_part_20 : decode cX3_part 20 = .ok (.invokestatic 24, 3) := by decide +kernel
theorem dX3_part_23 : decode cX3_part 23 = .ok (.ifCond .ne 6, 3) := by decide +kernel
theorem dX3_part_26 : decode cX3_part 26 = .ok (.bipush (-2), 2) := by decide +kernel
theorem dX3_part_28 : decode cX3_part 28 = .ok (.ireturn, 1) := by decide +kernel
theorem dX3_part_29 : decode cX3_part 29 = .ok (.iload_n 1, 1) := by decide +kernel
theorem dX3_part_30 : decode cX3_part 30 = .ok (.bipush 8, 2) := by decide +kernel
theorem dX3_part_32 : decode cX3_part 32 = .ok (.imul, 1) := by decide +kernel
theorem dX3_part_33 : decode cX3_part 33 = .ok (.iload_n 2, 1) := by decide +kernel
theorem dX3_part_34 : decode cX3_part 34 = .ok (.iadd, 1) := by decide +kernel
theorem dX3_part_35 : decode cX3_part 35 = .ok (.istore 6, 2) := by decide +kernel
theorem dX3_part_37 : decode cX3_part 37 = .ok (.iload_n 3, 1) := by decide +kernel
theorem dX3_part_38 : decode cX3_part 38 = .ok (.ifCond .eq 14, 3) := by decide +kernel
theorem dX3_part_41 : decode cX3_part 41 = .ok (.aload_n 0, 1) := by decide +kernel
theorem dX3_part_42 : decode cX3_part 42 = .ok (.getfield 10, 3) := by decide +kernel
theorem dX3_part_45 : decode cX3_part 45 = .ok (.iload 6, 2) := by decide +kernel
theorem dX3_part_47 : decode cX3_part 47 = .ok (.iload_n 3, 1) := by decide +kernel
theorem dX3_part_48 : decode cX3_part 48 = .ok (.invokevirtual 50, 3) := by decide +kernel
theorem dX3_part_51 : decode cX3_part 51 = .ok (.ireturn, 1) := by decide +kernel
theorem dX3_part_52 : decode cX3_part 52 = .ok (.iload_n 1, 1) := by decide +kernel
theorem dX3_part_53 : decode cX3_part 53 = .ok (.iload 4, 2) := by decide +kernel
theorem dX3_part_55 : decode cX3_part 55 = .ok (.invokestatic 39, 3) := by decide +kernel
theorem dX3_part_58 : decode cX3_part 58 = .ok (.ifCond .ne 6, 3) := by decide +kernel
theorem dX3_part_61 : decode cX3_part 61 = .ok (.bipush (-2), 2) := by decide +kernel
theorem dX3_part_63 : decode cX3_part 63 = .ok (.ireturn, 1) := by decide +kernel
theorem dX3_part_64 : decode cX3_part 64 = .ok (.iload 5, 2) := by decide +kernel
theorem dX3_part_66 : decode cX3_part 66 = .ok (.bipush 16, 2) := by decide +kernel
theorem dX3_part_68 : decode cX3_part 68 = .ok (.invokestatic 24, 3) := by decide +kernel
theorem dX3_part_71 : decode cX3_part 71 = .ok (.ifCond .ne 5, 3) := by decide +kernel
theorem dX3_part_74 : decode cX3_part 74 = .ok (.iconst (-1), 1) := by decide +kernel
theorem dX3_part_75 : decode cX3_part 75 = .ok (.ireturn, 1) := by decide +kernel
theorem dX3_part_76 : decode cX3_part 76 = .ok (.aload_n 0, 1) := by decide +kernel
theorem dX3_part_77 : decode cX3_part 77 = .ok (.getfield 10, 3) := by decide +kernel
theorem dX3_part_80 : decode cX3_part 80 = .ok (.iload 6, 2) := by decide +kernel
theorem dX3_part_82 : decode cX3_part 82 = .ok (.iload_n 1, 1) := by decide +kernel
theorem dX3_part_83 : decode cX3_part 83 = .ok (.iload 4, 2) := by decide +kernel
theorem dX3_part_85 : decode cX3_part 85 = .ok (.iload 5, 2) := by decide +kernel
theorem dX3_part_87 : decode cX3_part 87 = .ok (.invokevirtual 53, 3) := by decide +kernel
theorem dX3_part_90 : decode cX3_part 90 = .ok (.ireturn, 1) := by decide +kernel
theorem dX3_tick_0 : decode cX3_tick 0 = .ok (.iload_n 1, 1) := by decide +kernel
theorem dX3_tick_1 : decode cX3_tick 1 = .ok (.iconst 1, 1) := by decide +kernel
theorem dX3_tick_2 : decode cX3_tick 2 = .ok (.if_icmp .lt 9, 3) := by decide +kernel
theorem dX3_tick_5 : decode cX3_tick 5 = .ok (.iload_n 1, 1) := by decide +kernel
theorem dX3_tick_6 : decode cX3_tick 6 = .ok (.bipush 100, 2) := by decide +kernel
theorem dX3_tick_8 : decode cX3_tick 8 = .ok (.if_icmp .le 6, 3) := by decide +kernel
theorem dX3_tick_11 : decode cX3_tick 11 = .ok (.bipush (-2), 2) := by decide +kernel
theorem dX3_tick_13 : decode cX3_tick 13 = .ok (.ireturn, 1) := by decide +kernel
theorem dX3_tick_14 : decode cX3_tick 14 = .ok (.aload_n 0, 1) := by decide +kernel
theorem dX3_tick_15 : decode cX3_tick 15 = .ok (.getfield 10, 3) := by decide +kernel
theorem dX3_tick_18 : decode cX3_tick 18 = .ok (.iload_n 1, 1) := by decide +kernel
theorem dX3_tick_19 : decode cX3_tick 19 = .ok (.invokevirtual 56, 3) := by decide +kernel
theorem dX3_tick_22 : decode cX3_tick 22 = .ok (.ireturn, 1) := by decide +kernel
theorem dX3_drop_0 : decode cX3_drop 0 = .ok (.iload_n 1, 1) := by decide +kernel
theorem dX3_drop_1 : decode cX3_drop 1 = .ok (.iconst 4, 1) := by decide +kernel
theorem dX3_drop_2 : decode cX3_drop 2 = .ok (.invokestatic 24, 3) := by decide +kernel
theorem dX3_drop_5 : decode cX3_drop 5 = .ok (.ifCond .ne 5, 3) := by decide +kernel
theorem dX3_drop_8 : decode cX3_drop 8 = .ok (.iconst (-1), 1) := by decide +kernel
theorem dX3_drop_9 : decode cX3_drop 9 = .ok (.ireturn, 1) := by decide +kernel
theorem dX3_drop_10 : decode cX3_drop 10 = .ok (.aload_n 0, 1) := by decide +kernel
theorem dX3_drop_11 : decode cX3_drop 11 = .ok (.getfield 10, 3) := by decide +kernel
theorem dX3_drop_14 : decode cX3_drop 14 = .ok (.iload_n 1, 1) := by decide +kernel
theorem dX3_drop_15 : decode cX3_drop 15 = .ok (.invokevirtual 60, 3) := by decide +kernel
theorem dX3_drop_18 : decode cX3_drop 18 = .ok (.ireturn, 1) := by decide +kernel
theorem dX3_of_0 : decode cX3_of 0 = .ok (.iload_n 1, 1) := by decide +kernel
theorem dX3_of_1 : decode cX3_of 1 = .ok (.bipush 16, 2) := by decide +kernel
theorem dX3_of_3 : decode cX3_of 3 = .ok (.invokestatic 24, 3) := by decide +kernel
theorem dX3_of_6 : decode cX3_of 6 = .ok (.ifCond .ne 5, 3) := by decide +kernel
theorem dX3_of_9 : decode cX3_of 9 = .ok (.iconst (-1), 1) := by decide +kernel
theorem dX3_of_10 : decode cX3_of 10 = .ok (.ireturn, 1) := by decide +kernel
theorem dX3_of_11 : decode cX3_of 11 = .ok (.iload_n 2, 1) := by decide +kernel
theorem dX3_of_12 : decode cX3_of 12 = .ok (.bipush 6, 2) := by decide +kernel
theorem dX3_of_14 : decode cX3_of 14 = .ok (.invokestatic 24, 3) := by decide +kernel
theorem dX3_of_17 : decode cX3_of 17 = .ok (.ifCond .ne 6, 3) := by decide +kernel
theorem dX3_of_20 : decode cX3_of 20 = .ok (.bipush (-2), 2) := by decide +kernel
theorem dX3_of_22 : decode cX3_of 22 = .ok (.ireturn, 1) := by decide +kernel
theorem dX3_of_23 : decode cX3_of 23 = .ok (.aload_n 0, 1) := by decide +kernel
theorem dX3_of_24 : decode cX3_of 24 = .ok (.getfield 10, 3) := by decide +kernel
theorem dX3_of_27 : decode cX3_of 27 = .ok (.getfield 63, 3) := by decide +kernel
theorem dX3_of_30 : decode cX3_of 30 = .ok (.iload_n 1, 1) := by decide +kernel
theorem dX3_of_31 : decode cX3_of 31 = .ok (.invokevirtual 67, 3) := by decide +kernel
theorem dX3_of_34 : decode cX3_of 34 = .ok (.ifCond .eq 15, 3) := by decide +kernel
theorem dX3_of_37 : decode cX3_of 37 = .ok (.aload_n 0, 1) := by decide +kernel
theorem dX3_of_38 : decode cX3_of 38 = .ok (.getfield 10, 3) := by decide +kernel
theorem dX3_of_41 : decode cX3_of 41 = .ok (.iload_n 1, 1) := by decide +kernel
theorem dX3_of_42 : decode cX3_of 42 = .ok (.iload_n 2, 1) := by decide +kernel
theorem dX3_of_43 : decode cX3_of 43 = .ok (.invokevirtual 73, 3) := by decide +kernel
theorem dX3_of_46 : decode cX3_of 46 = .ok (.goto 5, 3) := by decide +kernel
theorem dX3_of_49 : decode cX3_of 49 = .ok (.bipush (-6), 2) := by decide +kernel
theorem dX3_of_51 : decode cX3_of 51 = .ok (.ireturn, 1) := by decide +kernel
theorem dX3_sent_0 : decode cX3_sent 0 = .ok (.iload_n 1, 1) := by decide +kernel
theorem dX3_sent_1 : decode cX3_sent 1 = .ok (.bipush 16, 2) := by decide +kernel
theorem dX3_sent_3 : decode cX3_sent 3 = .ok (.invokestatic 24, 3) := by decide +kernel
theorem dX3_sent_6 : decode cX3_sent 6 = .ok (.ifCond .ne 5, 3) := by decide +kernel
theorem dX3_sent_9 : decode cX3_sent 9 = .ok (.iconst (-1), 1) := by decide +kernel
theorem dX3_sent_10 : decode cX3_sent 10 = .ok (.ireturn, 1) := by decide +kernel
theorem dX3_sent_11 : decode cX3_sent 11 = .ok (.iload_n 2, 1) := by decide +kernel
theorem dX3_sent_12 : decode cX3_sent 12 = .ok (.iload_n 3, 1) := by decide +kernel
theorem dX3_sent_13 : decode cX3_sent 13 = .ok (.invokestatic 39, 3) := by decide +kernel
theorem dX3_sent_16 : decode cX3_sent 16 = .ok (.ifCond .ne 6, 3) := by decide +kernel
theorem dX3_sent_19 : decode cX3_sent 19 = .ok (.bipush (-2), 2) := by decide +kernel
theorem dX3_sent_21 : decode cX3_sent 21 = .ok (.ireturn, 1) := by decide +kernel
theorem dX3_sent_22 : decode cX3_sent 22 = .ok (.aload_n 0, 1) := by decide +kernel
theorem dX3_sent_23 : decode cX3_sent 23 = .ok (.getfield 10, 3) := by decide +kernel
theorem dX3_sent_26 : decode cX3_sent 26 = .ok (.getfield 63, 3) := by decide +kernel
theorem dX3_sent_29 : decode cX3_sent 29 = .ok (.iload_n 1, 1) := by decide +kernel
theorem dX3_sent_30 : decode cX3_sent 30 = .ok (.invokevirtual 67, 3) := by decide +kernel
theorem dX3_sent_33 : decode cX3_sent 33 = .ok (.ifCond .ne 6, 3) := by decide +kernel
theorem dX3_sent_36 : decode cX3_sent 36 = .ok (.bipush (-6), 2) := by decide +kernel
theorem dX3_sent_38 : decode cX3_sent 38 = .ok (.ireturn, 1) := by decide +kernel
theorem dX3_sent_39 : decode cX3_sent 39 = .ok (.aload_n 0, 1) := by decide +kernel
theorem dX3_sent_40 : decode cX3_sent 40 = .ok (.getfield 10, 3) := by decide +kernel
theorem dX3_sent_43 : decode cX3_sent 43 = .ok (.getfield 63, 3) := by decide +kernel
theorem dX3_sent_46 : decode cX3_sent 46 = .ok (.iload_n 1, 1) := by decide +kernel
theorem dX3_sent_47 : decode cX3_sent 47 = .ok (.iload_n 2, 1) := by decide +kernel
theorem dX3_sent_48 : decode cX3_sent 48 = .ok (.iload_n 3, 1) := by decide +kernel
theorem dX3_sent_49 : decode cX3_sent 49 = .ok (.invokevirtual 76, 3) := by decide +kernel
theorem dX3_sent_52 : decode cX3_sent 52 = .ok (.ifCond .eq 7, 3) := by decide +kernel
theorem dX3_sent_55 : decode cX3_sent 55 = .ok (.iconst 1, 1) := by decide +kernel
theorem dX3_sent_56 : decode cX3_sent 56 = .ok (.goto 4, 3) := by decide +kernel
theorem dX3_sent_59 : decode cX3_sent 59 = .ok (.iconst 0, 1) := by decide +kernel
theorem dX3_sent_60 : decode cX3_sent 60 = .ok (.ireturn, 1) := by decide +kernel
theorem dX3_find_0 : decode cX3_find 0 = .ok (.iload_n 1, 1) := by decide +kernel
theorem dX3_find_1 : decode cX3_find 1 = .ok (.iconst 4, 1) := by decide +kernel
theorem dX3_find_2 : decode cX3_find 2 = .ok (.invokestatic 24, 3) := by decide +kernel
theorem dX3_find_5 : decode cX3_find 5 = .ok (.ifCond .ne 5, 3) := by decide +kernel
theorem dX3_find_8 : decode cX3_find 8 = .ok (.iconst (-1), 1) := by decide +kernel
theorem dX3_find_9 : decode cX3_find 9 = .ok (.ireturn, 1) := by decide +kernel
theorem dX3_find_10 : decode cX3_find 10 = .ok (.iload_n 2, 1) := by decide +kernel
theorem dX3_find_11 : decode cX3_find 11 = .ok (.bipush 32, 2) := by decide +kernel
theorem dX3_find_13 : decode cX3_find 13 = .ok (.invokestatic 24, 3) := by decide +kernel
theorem dX3_find_16 : decode cX3_find 16 = .ok (.ifCond .eq 12, 3) := by decide +kernel
theorem dX3_find_19 : decode cX3_find 19 = .ok (.iload_n 3, 1) := by decide +kernel
theorem dX3_find_20 : decode cX3_find 20 = .ok (.iload 4, 2) := by decide +kernel
theorem dX3_find_22 : decode cX3_find 22 = .ok (.invokestatic 39, 3) := by decide +kernel
theorem dX3_find_25 : decode cX3_find 25 = .ok (.ifCond .ne 6, 3) := by decide +kernel
theorem dX3_find_28 : decode cX3_find 28 = .ok (.bipush (-2), 2) := by decide +kernel
theorem dX3_find_30 : decode cX3_find 30 = .ok (.ireturn, 1) := by decide +kernel
theorem dX3_find_31 : decode cX3_find 31 = .ok (.aload_n 0, 1) := by decide +kernel
theorem dX3_find_32 : decode cX3_find 32 = .ok (.getfield 10, 3) := by decide +kernel
theorem dX3_find_35 : decode cX3_find 35 = .ok (.getfield 63, 3) := by decide +kernel
theorem dX3_find_38 : decode cX3_find 38 = .ok (.iload_n 1, 1) := by decide +kernel
theorem dX3_find_39 : decode cX3_find 39 = .ok (.bipush 32, 2) := by decide +kernel
theorem dX3_find_41 : decode cX3_find 41 = .ok (.imul, 1) := by decide +kernel
theorem dX3_find_42 : decode cX3_find 42 = .ok (.iload_n 2, 1) := by decide +kernel
theorem dX3_find_43 : decode cX3_find 43 = .ok (.iadd, 1) := by decide +kernel
theorem dX3_find_44 : decode cX3_find 44 = .ok (.iload_n 3, 1) := by decide +kernel
theorem dX3_find_45 : decode cX3_find 45 = .ok (.iload 4, 2) := by decide +kernel
theorem dX3_find_47 : decode cX3_find 47 = .ok (.invokevirtual 80, 3) := by decide +kernel
theorem dX3_find_50 : decode cX3_find 50 = .ok (.ireturn, 1) := by decide +kernel
theorem dX3_next_0 : decode cX3_next 0 = .ok (.iload_n 1, 1) := by decide +kernel
theorem dX3_next_1 : decode cX3_next 1 = .ok (.iconst 4, 1) := by decide +kernel
theorem dX3_next_2 : decode cX3_next 2 = .ok (.invokestatic 24, 3) := by decide +kernel
theorem dX3_next_5 : decode cX3_next 5 = .ok (.ifCond .ne 5, 3) := by decide +kernel
theorem dX3_next_8 : decode cX3_next 8 = .ok (.iconst (-1), 1) := by decide +kernel
theorem dX3_next_9 : decode cX3_next 9 = .ok (.ireturn, 1) := by decide +kernel
theorem dX3_next_10 : decode cX3_next 10 = .ok (.iload_n 2, 1) := by decide +kernel
theorem dX3_next_11 : decode cX3_next 11 = .ok (.bipush 32, 2) := by decide +kernel
theorem dX3_next_13 : decode cX3_next 13 = .ok (.invokestatic 24, 3) := by decide +kernel
theorem dX3_next_16 : decode cX3_next 16 = .ok (.ifCond .ne 6, 3) := by decide +kernel
theorem dX3_next_19 : decode cX3_next 19 = .ok (.bipush (-2), 2) := by decide +kernel
theorem dX3_next_21 : decode cX3_next 21 = .ok (.ireturn, 1) := by decide +kernel
theorem dX3_next_22 : decode cX3_next 22 = .ok (.aload_n 0, 1) := by decide +kernel
theorem dX3_next_23 : decode cX3_next 23 = .ok (.getfield 10, 3) := by decide +kernel
theorem dX3_next_26 : decode cX3_next 26 = .ok (.iload_n 1, 1) := by decide +kernel
theorem dX3_next_27 : decode cX3_next 27 = .ok (.iload_n 2, 1) := by decide +kernel
theorem dX3_next_28 : decode cX3_next 28 = .ok (.invokevirtual 84, 3) := by decide +kernel
theorem dX3_next_31 : decode cX3_next 31 = .ok (.ireturn, 1) := by decide +kernel
theorem dX3_why_0 : decode cX3_why 0 = .ok (.iload_n 1, 1) := by decide +kernel
theorem dX3_why_1 : decode cX3_why 1 = .ok (.iload_n 2, 1) := by decide +kernel
theorem dX3_why_2 : decode cX3_why 2 = .ok (.invokestatic 39, 3) := by decide +kernel
theorem dX3_why_5 : decode cX3_why 5 = .ok (.ifCond .ne 6, 3) := by decide +kernel
theorem dX3_why_8 : decode cX3_why 8 = .ok (.bipush (-2), 2) := by decide +kernel
theorem dX3_why_10 : decode cX3_why 10 = .ok (.ireturn, 1) := by decide +kernel
theorem dX3_why_11 : decode cX3_why 11 = .ok (.iload_n 3, 1) := by decide +kernel
theorem dX3_why_12 : decode cX3_why 12 = .ok (.bipush 16, 2) := by decide +kernel
theorem dX3_why_14 : decode cX3_why 14 = .ok (.invokestatic 24, 3) := by decide +kernel
theorem dX3_why_17 : decode cX3_why 17 = .ok (.ifCond .ne 5, 3) := by decide +kernel
theorem dX3_why_20 : decode cX3_why 20 = .ok (.iconst (-1), 1) := by decide +kernel
theorem dX3_why_21 : decode cX3_why 21 = .ok (.ireturn, 1) := by decide +kernel
theorem dX3_why_22 : decode cX3_why 22 = .ok (.aload_n 0, 1) := by decide +kernel
theorem dX3_why_23 : decode cX3_why 23 = .ok (.getfield 10, 3) := by decide +kernel
theorem dX3_why_26 : decode cX3_why 26 = .ok (.iload_n 1, 1) := by decide +kernel
theorem dX3_why_27 : decode cX3_why 27 = .ok (.iload_n 2, 1) := by decide +kernel
theorem dX3_why_28 : decode cX3_why 28 = .ok (.iload_n 3, 1) := by decide +kernel
theorem dX3_why_29 : decode cX3_why 29 = .ok (.invokevirtual 87, 3) := by decide +kernel
theorem dX3_why_32 : decode cX3_why 32 = .ok (.ireturn, 1) := by decide +kernel
theorem dX3_block_0 : decode cX3_block 0 = .ok (.iload_n 1, 1) := by decide +kernel
theorem dX3_block_1 : decode cX3_block 1 = .ok (.iconst 4, 1) := by decide +kernel
theorem dX3_block_2 : decode cX3_block 2 = .ok (.invokestatic 24, 3) := by decide +kernel
theorem dX3_block_5 : decode cX3_block 5 = .ok (.ifCond .ne 5, 3) := by decide +kernel
theorem dX3_block_8 : decode cX3_block 8 = .ok (.iconst (-1), 1) := by decide +kernel
theorem dX3_block_9 : decode cX3_block 9 = .ok (.ireturn, 1) := by decide +kernel
theorem dX3_block_10 : decode cX3_block 10 = .ok (.aload_n 0, 1) := by decide +kernel
theorem dX3_block_11 : decode cX3_block 11 = .ok (.getfield 10, 3) := by decide +kernel
theorem dX3_block_14 : decode cX3_block 14 = .ok (.getfield 63, 3) := by decide +kernel
theorem dX3_block_17 : decode cX3_block 17 = .ok (.iload_n 1, 1) := by decide +kernel
theorem dX3_block_18 : decode cX3_block 18 = .ok (.invokevirtual 90, 3) := by decide +kernel
theorem dX3_block_21 : decode cX3_block 21 = .ok (.ireturn, 1) := by decide +kernel
theorem dX3_host_0 : decode cX3_host 0 = .ok (.iload_n 1, 1) := by decide +kernel
theorem dX3_host_1 : decode cX3_host 1 = .ok (.iconst 4, 1) := by decide +kernel
theorem dX3_host_2 : decode cX3_host 2 = .ok (.invokestatic 24, 3) := by decide +kernel
theorem dX3_host_5 : decode cX3_host 5 = .ok (.ifCond .ne 5, 3) := by decide +kernel
theorem dX3_host_8 : decode cX3_host 8 = .ok (.iconst (-1), 1) := by decide +kernel
theorem dX3_host_9 : decode cX3_host 9 = .ok (.ireturn, 1) := by decide +kernel
theorem dX3_host_10 : decode cX3_host 10 = .ok (.iload_n 2, 1) := by decide +kernel
theorem dX3_host_11 : decode cX3_host 11 = .ok (.iconst 4, 1) := by decide +kernel
theorem dX3_host_12 : decode cX3_host 12 = .ok (.invokestatic 24, 3) := by decide +kernel
theorem dX3_host_15 : decode cX3_host 15 = .ok (.ifCond .ne 6, 3) := by decide +kernel
theorem dX3_host_18 : decode cX3_host 18 = .ok (.bipush (-2), 2) := by decide +kernel
theorem dX3_host_20 : decode cX3_host 20 = .ok (.ireturn, 1) := by decide +kernel
theorem dX3_host_21 : decode cX3_host 21 = .ok (.aload_n 0, 1) := by decide +kernel
theorem dX3_host_22 : decode cX3_host 22 = .ok (.getfield 10, 3) := by decide +kernel
theorem dX3_host_25 : decode cX3_host 25 = .ok (.iload_n 1, 1) := by decide +kernel
theorem dX3_host_26 : decode cX3_host 26 = .ok (.iload_n 2, 1) := by decide +kernel
theorem dX3_host_27 : decode cX3_host 27 = .ok (.invokevirtual 93, 3) := by decide +kernel
theorem dX3_host_30 : decode cX3_host 30 = .ok (.ireturn, 1) := by decide +kernel
theorem dX3_soon_0 : decode cX3_soon 0 = .ok (.aload_n 0, 1) := by decide +kernel
theorem dX3_soon_1 : decode cX3_soon 1 = .ok (.getfield 10, 3) := by decide +kernel
theorem dX3_soon_4 : decode cX3_soon 4 = .ok (.invokevirtual 96, 3) := by decide +kernel
theorem dX3_soon_7 : decode cX3_soon 7 = .ok (.ireturn, 1) := by decide +kernel
theorem dX3_image_0 : decode cX3_image 0 = .ok (.iload_n 1, 1) := by decide +kernel
theorem dX3_image_1 : decode cX3_image 1 = .ok (.iconst 2, 1) := by decide +kernel
theorem dX3_image_2 : decode cX3_image 2 = .ok (.invokestatic 24, 3) := by decide +kernel
theorem dX3_image_5 : decode cX3_image 5 = .ok (.ifCond .ne 6, 3) := by decide +kernel
theorem dX3_image_8 : decode cX3_image 8 = .ok (.bipush (-2), 2) := by decide +kernel
theorem dX3_image_10 : decode cX3_image 10 = .ok (.ireturn, 1) := by decide +kernel
theorem dX3_image_11 : decode cX3_image 11 = .ok (.aload_n 0, 1) := by decide +kernel
theorem dX3_image_12 : decode cX3_image 12 = .ok (.getfield 16, 3) := by decide +kernel
theorem dX3_image_15 : decode cX3_image 15 = .ok (.iload_n 1, 1) := by decide +kernel
theorem dX3_image_16 : decode cX3_image 16 = .ok (.aaload, 1) := by decide +kernel
theorem dX3_image_17 : decode cX3_image 17 = .ok (.aload_n 0, 1) := by decide +kernel
theorem dX3_image_18 : decode cX3_image 18 = .ok (.getfield 10, 3) := by decide +kernel
theorem dX3_image_21 : decode cX3_image 21 = .ok (.invokevirtual 100, 3) := by decide +kernel
theorem dX3_image_24 : decode cX3_image 24 = .ok (.aload_n 0, 1) := by decide +kernel
theorem dX3_image_25 : decode cX3_image 25 = .ok (.getfield 20, 3) := by decide +kernel
theorem dX3_image_28 : decode cX3_image 28 = .ok (.iload_n 1, 1) := by decide +kernel
theorem dX3_image_29 : decode cX3_image 29 = .ok (.iconst 1, 1) := by decide +kernel
theorem dX3_image_30 : decode cX3_image 30 = .ok (.bastore, 1) := by decide +kernel
theorem dX3_image_31 : decode cX3_image 31 = .ok (.iconst 1, 1) := by decide +kernel
theorem dX3_image_32 : decode cX3_image 32 = .ok (.ireturn, 1) := by decide +kernel
theorem dX3_restore_0 : decode cX3_restore 0 = .ok (.iload_n 1, 1) := by decide +kernel
theorem dX3_restore_1 : decode cX3_restore 1 = .ok (.iconst 2, 1) := by decide +kernel
theorem dX3_restore_2 : decode cX3_restore 2 = .ok (.invokestatic 24, 3) := by decide +kernel
theorem dX3_restore_5 : decode cX3_restore 5 = .ok (.ifCond .ne 6, 3) := by decide +kernel
theorem dX3_restore_8 : decode cX3_restore 8 = .ok (.bipush (-2), 2) := by decide +kernel
theorem dX3_restore_10 : decode cX3_restore 10 = .ok (.ireturn, 1) := by decide +kernel
theorem dX3_restore_11 : decode cX3_restore 11 = .ok (.aload_n 0, 1) := by decide +kernel
theorem dX3_restore_12 : decode cX3_restore 12 = .ok (.getfield 20, 3) := by decide +kernel
theorem dX3_restore_15 : decode cX3_restore 15 = .ok (.iload_n 1, 1) := by decide +kernel
theorem dX3_restore_16 : decode cX3_restore 16 = .ok (.baload, 1) := by decide +kernel
theorem dX3_restore_17 : decode cX3_restore 17 = .ok (.ifCond .ne 6, 3) := by decide +kernel
theorem dX3_restore_20 : decode cX3_restore 20 = .ok (.bipush (-3), 2) := by decide +kernel
theorem dX3_restore_22 : decode cX3_restore 22 = .ok (.ireturn, 1) := by decide +kernel
theorem dX3_restore_23 : decode cX3_restore 23 = .ok (.aload_n 0, 1) := by decide +kernel
theorem dX3_restore_24 : decode cX3_restore 24 = .ok (.getfield 10, 3) := by decide +kernel
theorem dX3_restore_27 : decode cX3_restore 27 = .ok (.aload_n 0, 1) := by decide +kernel
theorem dX3_restore_28 : decode cX3_restore 28 = .ok (.getfield 16, 3) := by decide +kernel
theorem dX3_restore_31 : decode cX3_restore 31 = .ok (.iload_n 1, 1) := by decide +kernel
theorem dX3_restore_32 : decode cX3_restore 32 = .ok (.aaload, 1) := by decide +kernel
theorem dX3_restore_33 : decode cX3_restore 33 = .ok (.invokevirtual 100, 3) := by decide +kernel
theorem dX3_restore_36 : decode cX3_restore 36 = .ok (.iconst 1, 1) := by decide +kernel
theorem dX3_restore_37 : decode cX3_restore 37 = .ok (.ireturn, 1) := by decide +kernel
theorem dX3_count_0 : decode cX3_count 0 = .ok (.iload_n 1, 1) := by decide +kernel
theorem dX3_count_1 : decode cX3_count 1 = .ok (.tableswitch 121 0 5 #[39, 50, 58, 69, 80, 91], 39) := by decide +kernel
theorem dX3_count_40 : decode cX3_count 40 = .ok (.aload_n 0, 1) := by decide +kernel
theorem dX3_count_41 : decode cX3_count 41 = .ok (.getfield 10, 3) := by decide +kernel
theorem dX3_count_44 : decode cX3_count 44 = .ok (.getfield 63, 3) := by decide +kernel
theorem dX3_count_47 : decode cX3_count 47 = .ok (.invokevirtual 104, 3) := by decide +kernel
theorem dX3_count_50 : decode cX3_count 50 = .ok (.ireturn, 1) := by decide +kernel
theorem dX3_count_51 : decode cX3_count 51 = .ok (.aload_n 0, 1) := by decide +kernel
theorem dX3_count_52 : decode cX3_count 52 = .ok (.getfield 10, 3) := by decide +kernel
theorem dX3_count_55 : decode cX3_count 55 = .ok (.getfield 107, 3) := by decide +kernel
theorem dX3_count_58 : decode cX3_count 58 = .ok (.ireturn, 1) := by decide +kernel
theorem dX3_count_59 : decode cX3_count 59 = .ok (.aload_n 0, 1) := by decide +kernel
theorem dX3_count_60 : decode cX3_count 60 = .ok (.getfield 10, 3) := by decide +kernel
theorem dX3_count_63 : decode cX3_count 63 = .ok (.getfield 63, 3) := by decide +kernel
theorem dX3_count_66 : decode cX3_count 66 = .ok (.invokevirtual 111, 3) := by decide +kernel
theorem dX3_count_69 : decode cX3_count 69 = .ok (.ireturn, 1) := by decide +kernel
theorem dX3_count_70 : decode cX3_count 70 = .ok (.aload_n 0, 1) := by decide +kernel
theorem dX3_count_71 : decode cX3_count 71 = .ok (.getfield 10, 3) := by decide +kernel
theorem dX3_count_74 : decode cX3_count 74 = .ok (.getfield 114, 3) := by decide +kernel
theorem dX3_count_77 : decode cX3_count 77 = .ok (.invokevirtual 118, 3) := by decide +kernel
theorem dX3_count_80 : decode cX3_count 80 = .ok (.ireturn, 1) := by decide +kernel
theorem dX3_count_81 : decode cX3_count 81 = .ok (.aload_n 0, 1) := by decide +kernel
theorem dX3_count_82 : decode cX3_count 82 = .ok (.getfield 10, 3) := by decide +kernel
theorem dX3_count_85 : decode cX3_count 85 = .ok (.getfield 114, 3) := by decide +kernel
theorem dX3_count_88 : decode cX3_count 88 = .ok (.invokevirtual 123, 3) := by decide +kernel
theorem dX3_count_91 : decode cX3_count 91 = .ok (.ireturn, 1) := by decide +kernel
theorem dX3_count_92 : decode cX3_count 92 = .ok (.aload_n 0, 1) := by decide +kernel
theorem dX3_count_93 : decode cX3_count 93 = .ok (.getfield 20, 3) := by decide +kernel
theorem dX3_count_96 : decode cX3_count 96 = .ok (.iconst 0, 1) := by decide +kernel
theorem dX3_count_97 : decode cX3_count 97 = .ok (.baload, 1) := by decide +kernel
theorem dX3_count_98 : decode cX3_count 98 = .ok (.ifCond .eq 7, 3) := by decide +kernel
theorem dX3_count_101 : decode cX3_count 101 = .ok (.iconst 1, 1) := by decide +kernel
theorem dX3_count_102 : decode cX3_count 102 = .ok (.goto 4, 3) := by decide +kernel
theorem dX3_count_105 : decode cX3_count 105 = .ok (.iconst 0, 1) := by decide +kernel
theorem dX3_count_106 : decode cX3_count 106 = .ok (.aload_n 0, 1) := by decide +kernel
theorem dX3_count_107 : decode cX3_count 107 = .ok (.getfield 20, 3) := by decide +kernel
theorem dX3_count_110 : decode cX3_count 110 = .ok (.iconst 1, 1) := by decide +kernel
theorem dX3_count_111 : decode cX3_count 111 = .ok (.baload, 1) := by decide +kernel
theorem dX3_count_112 : decode cX3_count 112 = .ok (.ifCond .eq 7, 3) := by decide +kernel
theorem dX3_count_115 : decode cX3_count 115 = .ok (.iconst 2, 1) := by decide +kernel
theorem dX3_count_116 : decode cX3_count 116 = .ok (.goto 4, 3) := by decide +kernel
theorem dX3_count_119 : decode cX3_count 119 = .ok (.iconst 0, 1) := by decide +kernel
theorem dX3_count_120 : decode cX3_count 120 = .ok (.iadd, 1) := by decide +kernel
theorem dX3_count_121 : decode cX3_count 121 = .ok (.ireturn, 1) := by decide +kernel
theorem dX3_count_122 : decode cX3_count 122 = .ok (.aload_n 0, 1) := by decide +kernel
theorem dX3_count_123 : decode cX3_count 123 = .ok (.iload_n 1, 1) := by decide +kernel
theorem dX3_count_124 : decode cX3_count 124 = .ok (.invokevirtual 126, 3) := by decide +kernel
theorem dX3_count_127 : decode cX3_count 127 = .ok (.ireturn, 1) := by decide +kernel
theorem dX3_ruleAt_0 : decode cX3_ruleAt 0 = .ok (.iload_n 1, 1) := by decide +kernel
theorem dX3_ruleAt_1 : decode cX3_ruleAt 1 = .ok (.bipush 10, 2) := by decide +kernel
theorem dX3_ruleAt_3 : decode cX3_ruleAt 3 = .ok (.if_icmp .lt 9, 3) := by decide +kernel
theorem dX3_ruleAt_6 : decode cX3_ruleAt 6 = .ok (.iload_n 1, 1) := by decide +kernel
theorem dX3_ruleAt_7 : decode cX3_ruleAt 7 = .ok (.bipush 16, 2) := by decide +kernel
theorem dX3_ruleAt_9 : decode cX3_ruleAt 9 = .ok (.if_icmp .lt 6, 3) := by decide +kernel
theorem dX3_ruleAt_12 : decode cX3_ruleAt 12 = .ok (.bipush (-2), 2) := by decide +kernel
theorem dX3_ruleAt_14 : decode cX3_ruleAt 14 = .ok (.ireturn, 1) := by decide +kernel
theorem dX3_ruleAt_15 : decode cX3_ruleAt 15 = .ok (.aload_n 0, 1) := by decide +kernel
theorem dX3_ruleAt_16 : decode cX3_ruleAt 16 = .ok (.getfield 10, 3) := by decide +kernel
theorem dX3_ruleAt_19 : decode cX3_ruleAt 19 = .ok (.getfield 129, 3) := by decide +kernel
theorem dX3_ruleAt_22 : decode cX3_ruleAt 22 = .ok (.iload_n 1, 1) := by decide +kernel
theorem dX3_ruleAt_23 : decode cX3_ruleAt 23 = .ok (.bipush 10, 2) := by decide +kernel
theorem dX3_ruleAt_25 : decode cX3_ruleAt 25 = .ok (.isub, 1) := by decide +kernel
theorem dX3_ruleAt_26 : decode cX3_ruleAt 26 = .ok (.iaload, 1) := by decide +kernel
theorem dX3_ruleAt_27 : decode cX3_ruleAt 27 = .ok (.ireturn, 1) := by decide +kernel
theorem dX3_isBelow_0 : decode cX3_isBelow 0 = .ok (.iload_n 0, 1) := by decide +kernel
theorem dX3_isBelow_1 : decode cX3_isBelow 1 = .ok (.ifCond .lt 12, 3) := by decide +kernel
theorem dX3_isBelow_4 : decode cX3_isBelow 4 = .ok (.iload_n 0, 1) := by decide +kernel
theorem dX3_isBelow_5 : decode cX3_isBelow 5 = .ok (.iload_n 1, 1) := by decide +kernel
theorem dX3_isBelow_6 : decode cX3_isBelow 6 = .ok (.if_icmp .ge 7, 3) := by decide +kernel
theorem dX3_isBelow_9 : decode cX3_isBelow 9 = .ok (.iconst 1, 1) := by decide +kernel
theorem dX3_isBelow_10 : decode cX3_isBelow 10 = .ok (.goto 4, 3) := by decide +kernel
theorem dX3_isBelow_13 : decode cX3_isBelow 13 = .ok (.iconst 0, 1) := by decide +kernel
theorem dX3_isBelow_14 : decode cX3_isBelow 14 = .ok (.ireturn, 1) := by decide +kernel
theorem dX3_isRemotePort_0 : decode cX3_isRemotePort 0 = .ok (.iload_n 0, 1) := by decide +kernel
theorem dX3_isRemotePort_1 : decode cX3_isRemotePort 1 = .ok (.iconst 5, 1) := by decide +kernel
theorem dX3_isRemotePort_2 : decode cX3_isRemotePort 2 = .ok (.invokestatic 24, 3) := by decide +kernel
theorem dX3_isRemotePort_5 : decode cX3_isRemotePort 5 = .ok (.ifCond .eq 26, 3) := by decide +kernel
theorem dX3_isRemotePort_8 : decode cX3_isRemotePort 8 = .ok (.iload_n 1, 1) := by decide +kernel
theorem dX3_isRemotePort_9 : decode cX3_isRemotePort 9 = .ok (.iload_n 0, 1) := by decide +kernel
theorem dX3_isRemotePort_10 : decode cX3_isRemotePort 10 = .ok (.iconst 4, 1) := by decide +kernel
theorem dX3_isRemotePort_11 : decode cX3_isRemotePort 11 = .ok (.if_icmp .ne 8, 3) := by decide +kernel
theorem dX3_isRemotePort_14 : decode cX3_isRemotePort 14 = .ok (.bipush 16, 2) := by decide +kernel
theorem dX3_isRemotePort_16 : decode cX3_isRemotePort 16 = .ok (.goto 5, 3) := by decide +kernel
theorem dX3_isRemotePort_19 : decode cX3_isRemotePort 19 = .ok (.bipush 32, 2) := by decide +kernel
theorem dX3_isRemotePort_21 : decode cX3_isRemotePort 21 = .ok (.invokestatic 24, 3) := by decide +kernel
theorem dX3_isRemotePort_24 : decode cX3_isRemotePort 24 = .ok (.ifCond .eq 7, 3) := by decide +kernel
theorem dX3_isRemotePort_27 : decode cX3_isRemotePort 27 = .ok (.iconst 1, 1) := by decide +kernel
theorem dX3_isRemotePort_28 : decode cX3_isRemotePort 28 = .ok (.goto 4, 3) := by decide +kernel
theorem dX3_isRemotePort_31 : decode cX3_isRemotePort 31 = .ok (.iconst 0, 1) := by decide +kernel
theorem dX3_isRemotePort_32 : decode cX3_isRemotePort 32 = .ok (.ireturn, 1) := by decide +kernel
end
section
theorem dX4_init_0 : decode cX4_init 0 = .ok (.aload_n 0, 1) := by decide +kernel
theorem dX4_init_1 : decode cX4_init 1 = .ok (.invokespecial 1, 3) := by decide +kernel
theorem dX4_init_4 : decode cX4_init 4 = .ok (.aload_n 0, 1) := by decide +kernel
theorem dX4_init_5 : decode cX4_init 5 = .ok (.sipush 503, 3) := by decide +kernel
theorem dX4_init_8 : decode cX4_init 8 = .ok (.newarray .int, 2) := by decide +kernel
theorem dX4_init_10 : decode cX4_init 10 = .ok (.putfield 7, 3) := by decide +kernel
theorem dX4_init_13 : decode cX4_init 13 = .ok (.aload_n 0, 1) := by decide +kernel
theorem dX4_init_14 : decode cX4_init 14 = .ok (.sipush 1006, 3) := by decide +kernel
theorem dX4_init_17 : decode cX4_init 17 = .ok (.newarray .int, 2) := by decide +kernel
theorem dX4_init_19 : decode cX4_init 19 = .ok (.putfield 13, 3) := by decide +kernel
theorem dX4_init_22 : decode cX4_init 22 = .ok (.aload_n 0, 1) := by decide +kernel
theorem dX4_init_23 : decode cX4_init 23 = .ok (.iconst 2, 1) := by decide +kernel
theorem dX4_init_24 : decode cX4_init 24 = .ok (.newarray .boolean, 2) := by decide +kernel
theorem dX4_init_26 : decode cX4_init 26 = .ok (.putfield 16, 3) := by decide +kernel
theorem dX4_init_29 : decode cX4_init 29 = .ok (.aload_n 0, 1) := by decide +kernel
theorem dX4_init_30 : decode cX4_init 30 = .ok (.getfield 7, 3) := by decide +kernel
theorem dX4_init_33 : decode cX4_init 33 = .ok (.iconst 3, 1) := by decide +kernel
theorem dX4_init_34 : decode cX4_init 34 = .ok (.iconst 4, 1) := by decide +kernel
theorem dX4_init_35 : decode cX4_init 35 = .ok (.iastore, 1) := by decide +kernel
theorem dX4_init_36 : decode cX4_init 36 = .ok (.aload_n 0, 1) := by decide +kernel
theorem dX4_init_37 : decode cX4_init 37 = .ok (.getfield 7, 3) := by decide +kernel
theorem dX4_init_40 : decode cX4_init 40 = .ok (.iconst 4, 1) := by decide +kernel
theorem dX4_init_41 : decode cX4_init 41 = .ok (.bipush 20, 2) := by decide +kernel
theorem dX4_init_43 : decode cX4_init 43 = .ok (.iastore, 1) := by decide +kernel
theorem dX4_init_44 : decode cX4_init 44 = .ok (.aload_n 0, 1) := by decide +kernel
theorem dX4_init_45 : decode cX4_init 45 = .ok (.getfield 7, 3) := by decide +kernel
theorem dX4_init_48 : decode cX4_init 48 = .ok (.iconst 5, 1) := by decide +kernel
theorem dX4_init_49 : decode cX4_init 49 = .ok (.iconst 2, 1) := by decide +kernel
theorem dX4_init_50 : decode cX4_init 50 = .ok (.iastore, 1) := by decide +kernel
theorem dX4_init_51 : decode cX4_init 51 = .ok (.iconst 0, 1) := by decide +kernel
theorem dX4_init_52 : decode cX4_init 52 = .ok (.istore_n 1, 1) := by decide +kernel
theorem dX4_init_53 : decode cX4_init 53 = .ok (.iload_n 1, 1) := by decide +kernel
theorem dX4_init_54 : decode cX4_init 54 = .ok (.bipush 16, 2) := by decide +kernel
theorem dX4_init_56 : decode cX4_init 56 = .ok (.if_icmp .ge 20, 3) := by decide +kernel
theorem dX4_init_59 : decode cX4_init 59 = .ok (.aload_n 0, 1) := by decide +kernel
theorem dX4_init_60 : decode cX4_init 60 = .ok (.getfield 7, 3) := by decide +kernel
theorem dX4_init_63 : decode cX4_init 63 = .ok (.bipush 7, 2) := by decide +kernel
theorem dX4_init_65 : decode cX4_init 65 = .ok (.iload_n 1, 1) := by decide +kernel
theorem dX4_init_66 : decode cX4_init 66 = .ok (.iadd, 1) := by decide +kernel
theorem dX4_init_67 : decode cX4_init 67 = .ok (.bipush (-6), 2) := by decide +kernel
theorem dX4_init_69 : decode cX4_init 69 = .ok (.iastore, 1) := by decide +kernel
theorem dX4_init_70 : decode cX4_init 70 = .ok (.iinc 1 1, 3) := by decide +kernel
theorem dX4_init_73 : decode cX4_init 73 = .ok (.goto (-20), 3) := by decide +kernel
theorem dX4_init_76 : decode cX4_init 76 = .ok (.return_, 1) := by decide +kernel
theorem dX4_isFrom_0 : decode cX4_isFrom 0 = .ok (.iload_n 0, 1) := by decide +kernel
theorem dX4_isFrom_1 : decode cX4_isFrom 1 = .ok (.iload_n 1, 1) := by decide +kernel
theorem dX4_isFrom_2 : decode cX4_isFrom 2 = .ok (.if_icmp .lt 12, 3) := by decide +kernel
theorem dX4_isFrom_5 : decode cX4_isFrom 5 = .ok (.iload_n 0, 1) := by decide +kernel
theorem dX4_isFrom_6 : decode cX4_isFrom 6 = .ok (.iload_n 2, 1) := by decide +kernel
theorem dX4_isFrom_7 : decode cX4_isFrom 7 = .ok (.if_icmp .gt 7, 3) := by decide +kernel
theorem dX4_isFrom_10 : decode cX4_isFrom 10 = .ok (.iconst 1, 1) := by decide +kernel
theorem dX4_isFrom_11 : decode cX4_isFrom 11 = .ok (.goto 4, 3) := by decide +kernel
theorem dX4_isFrom_14 : decode cX4_isFrom 14 = .ok (.iconst 0, 1) := by decide +kernel
theorem dX4_isFrom_15 : decode cX4_isFrom 15 = .ok (.ireturn, 1) := by decide +kernel
theorem dX4_isHost_0 : decode cX4_isHost 0 = .ok (.iload_n 0, 1) := by decide +kernel
theorem dX4_isHost_1 : decode cX4_isHost 1 = .ok (.iconst 0, 1) := by decide +kernel
theorem dX4_isHost_2 : decode cX4_isHost 2 = .ok (.iconst 3, 1) := by decide +kernel
theorem dX4_isHost_3 : decode cX4_isHost 3 = .ok (.invokestatic 20, 3) := by decide +kernel
theorem dX4_isHost_6 : decode cX4_isHost 6 = .ok (.ireturn, 1) := by decide +kernel
theorem dX4_isPort_0 : decode cX4_isPort 0 = .ok (.iload_n 0, 1) := by decide +kernel
theorem dX4_isPort_1 : decode cX4_isPort 1 = .ok (.iconst 0, 1) := by decide +kernel
theorem dX4_isPort_2 : decode cX4_isPort 2 = .ok (.bipush 31, 2) := by decide +kernel
theorem dX4_isPort_4 : decode cX4_isPort 4 = .ok (.invokestatic 20, 3) := by decide +kernel
theorem dX4_isPort_7 : decode cX4_isPort 7 = .ok (.ireturn, 1) := by decide +kernel
theorem dX4_isOuter_0 : decode cX4_isOuter 0 = .ok (.iload_n 0, 1) := by decide +kernel
theorem dX4_isOuter_1 : decode cX4_isOuter 1 = .ok (.iconst 0, 1) := by decide +kernel
theorem dX4_isOuter_2 : decode cX4_isOuter 2 = .ok (.bipush 15, 2) := by decide +kernel
theorem dX4_isOuter_4 : decode cX4_isOuter 4 = .ok (.invokestatic 20, 3) := by decide +kernel
theorem dX4_isOuter_7 : decode cX4_isOuter 7 = .ok (.ireturn, 1) := by decide +kernel
theorem dX4_isRemote_0 : decode cX4_isRemote 0 = .ok (.iload_n 0, 1) := by decide +kernel
theorem dX4_isRemote_1 : decode cX4_isRemote 1 = .ok (.iconst 0, 1) := by decide +kernel
theorem dX4_isRemote_2 : decode cX4_isRemote 2 = .ok (.iconst 4, 1) := by decide +kernel
theorem dX4_isRemote_3 : decode cX4_isRemote 3 = .ok (.invokestatic 20, 3) := by decide +kernel
theorem dX4_isRemote_6 : decode cX4_isRemote 6 = .ok (.ifCond .eq 27, 3) := by decide +kernel
theorem dX4_isRemote_9 : decode cX4_isRemote 9 = .ok (.iload_n 1, 1) := by decide +kernel
theorem dX4_isRemote_10 : decode cX4_isRemote 10 = .ok (.iconst 0, 1) := by decide +kernel
theorem dX4_isRemote_11 : decode cX4_isRemote 11 = .ok (.iload_n 0, 1) := by decide +kernel
theorem dX4_isRemote_12 : decode cX4_isRemote 12 = .ok (.iconst 4, 1) := by decide +kernel
theorem dX4_isRemote_13 : decode cX4_isRemote 13 = .ok (.if_icmp .ne 8, 3) := by decide +kernel
theorem dX4_isRemote_16 : decode cX4_isRemote 16 = .ok (.bipush 15, 2) := by decide +kernel
theorem dX4_isRemote_18 : decode cX4_isRemote 18 = .ok (.goto 5, 3) := by decide +kernel
theorem dX4_isRemote_21 : decode cX4_isRemote 21 = .ok (.bipush 31, 2) := by decide +kernel
theorem dX4_isRemote_23 : decode cX4_isRemote 23 = .ok (.invokestatic 20, 3) := by decide +kernel
theorem dX4_isRemote_26 : decode cX4_isRemote 26 = .ok (.ifCond .eq 7, 3) := by decide +kernel
theorem dX4_isRemote_29 : decode cX4_isRemote 29 = .ok (.iconst 1, 1) := by decide +kernel
theorem dX4_isRemote_30 : decode cX4_isRemote 30 = .ok (.goto 4, 3) := by decide +kernel
theorem dX4_isRemote_33 : decode cX4_isRemote 33 = .ok (.iconst 0, 1) := by decide +kernel
theorem dX4_isRemote_34 : decode cX4_isRemote 34 = .ok (.ireturn, 1) := by decide +kernel
theorem dX4_isFlag_0 : decode cX4_isFlag 0 = .ok (.iload_n 0, 1) := by decide +kernel
theorem dX4_isFlag_1 : decode cX4_isFlag 1 = .ok (.iconst 0, 1) := by decide +kernel
theorem dX4_isFlag_2 : decode cX4_isFlag 2 = .ok (.iconst 2, 1) := by decide +kernel
theorem dX4_isFlag_3 : decode cX4_isFlag 3 = .ok (.invokestatic 20, 3) := by decide +kernel
theorem dX4_isFlag_6 : decode cX4_isFlag 6 = .ok (.ireturn, 1) := by decide +kernel
theorem dX4_isLent_0 : decode cX4_isLent 0 = .ok (.aload_n 0, 1) := by decide +kernel
theorem dX4_isLent_1 : decode cX4_isLent 1 = .ok (.getfield 7, 3) := by decide +kernel
theorem dX4_isLent_4 : decode cX4_isLent 4 = .ok (.bipush 7, 2) := by decide +kernel
theorem dX4_isLent_6 : decode cX4_isLent 6 = .ok (.iload_n 1, 1) := by decide +kernel
theorem dX4_isLent_7 : decode cX4_isLent 7 = .ok (.iadd, 1) := by decide +kernel
theorem dX4_isLent_8 : decode cX4_isLent 8 = .ok (.iaload, 1) := by decide +kernel
theorem dX4_isLent_9 : decode cX4_isLent 9 = .ok (.ifCond .lt 7, 3) := by decide +kernel
theorem dX4_isLent_12 : decode cX4_isLent 12 = .ok (.iconst 1, 1) := by decide +kernel
theorem dX4_isLent_13 : decode cX4_isLent 13 = .ok (.goto 4, 3) := by decide +kernel
theorem dX4_isLent_16 : decode cX4_isLent 16 = .ok (.iconst 0, 1) := by decide +kernel
theorem dX4_isLent_17 : decode cX4_isLent 17 = .ok (.ireturn, 1) := by decide +kernel
theorem dX4_end_0 : decode cX4_end 0 = .ok (.aload_n 0, 1) := by decide +kernel
theorem dX4_end_1 : decode cX4_end 1 = .ok (.getfield 7, 3) := by decide +kernel
theorem dX4_end_4 : decode cX4_end 4 = .ok (.bipush 7, 2) := by decide +kernel
theorem dX4_end_6 : decode cX4_end 6 = .ok (.iload_n 1, 1) := by decide +kernel
theorem dX4_end_7 : decode cX4_end 7 = .ok (.iadd, 1) := by decide +kernel
theorem dX4_end_8 : decode cX4_end 8 = .ok (.bipush (-6), 2) := by decide +kernel
theorem dX4_end_10 : decode cX4_end 10 = .ok (.iastore, 1) := by decide +kernel
theorem dX4_end_11 : decode cX4_end 11 = .ok (.iconst 0, 1) := by decide +kernel
theorem dX4_end_12 : decode cX4_end 12 = .ok (.istore_n 2, 1) := by decide +kernel
theorem dX4_end_13 : decode cX4_end 13 = .ok (.iload_n 2, 1) := by decide +kernel
theorem dX4_end_14 : decode cX4_end 14 = .ok (.bipush 32, 2) := by decide +kernel
theorem dX4_end_16 : decode cX4_end 16 = .ok (.if_icmp .ge 54, 3) := by decide +kernel
theorem dX4_end_19 : decode cX4_end 19 = .ok (.aload_n 0, 1) := by decide +kernel
theorem dX4_end_20 : decode cX4_end 20 = .ok (.getfield 7, 3) := by decide +kernel
theorem dX4_end_23 : decode cX4_end 23 = .ok (.sipush 183, 3) := by decide +kernel
theorem dX4_end_26 : decode cX4_end 26 = .ok (.iload_n 2, 1) := by decide +kernel
theorem dX4_end_27 : decode cX4_end 27 = .ok (.iadd, 1) := by decide +kernel
theorem dX4_end_28 : decode cX4_end 28 = .ok (.iaload, 1) := by decide +kernel
theorem dX4_end_29 : decode cX4_end 29 = .ok (.aload_n 0, 1) := by decide +kernel
theorem dX4_end_30 : decode cX4_end 30 = .ok (.getfield 7, 3) := by decide +kernel
theorem dX4_end_33 : decode cX4_end 33 = .ok (.bipush 6, 2) := by decide +kernel
theorem dX4_end_35 : decode cX4_end 35 = .ok (.iaload, 1) := by decide +kernel
theorem dX4_end_36 : decode cX4_end 36 = .ok (.if_icmp .le 28, 3) := by decide +kernel
theorem dX4_end_39 : decode cX4_end 39 = .ok (.aload_n 0, 1) := by decide +kernel
theorem dX4_end_40 : decode cX4_end 40 = .ok (.getfield 7, 3) := by decide +kernel
theorem dX4_end_43 : decode cX4_end 43 = .ok (.sipush 215, 3) := by decide +kernel
theorem dX4_end_46 : decode cX4_end 46 = .ok (.iload_n 2, 1) := by decide +kernel
theorem dX4_end_47 : decode cX4_end 47 = .ok (.iadd, 1) := by decide +kernel
theorem dX4_end_48 : decode cX4_end 48 = .ok (.iaload, 1) := by decide +kernel
theorem dX4_end_49 : decode cX4_end 49 = .ok (.iload_n 1, 1) := by decide +kernel
theorem dX4_end_50 : decode cX4_end 50 = .ok (.if_icmp .ne 14, 3) := by decide +kernel
theorem dX4_end_53 : decode cX4_end 53 = .ok (.aload_n 0, 1) := by decide +kernel
theorem dX4_end_54 : decode cX4_end 54 = .ok (.getfield 7, 3) := by decide +kernel
theorem dX4_end_57 : decode cX4_end 57 = .ok (.sipush 183, 3) := by decide +kernel
theorem dX4_end_60 : decode cX4_end 60 = .ok (.iload_n 2, 1) := by decide +kernel
theorem dX4_end_61 : decode cX4_end 61 = .ok (.iadd, 1) := by decide +kernel
theorem dX4_end_62 : decode cX4_end 62 = .ok (.iconst 0, 1) := by decide +kernel
theorem dX4_end_63 : decode cX4_end 63 = .ok (.iastore, 1) := by decide +kernel
theorem dX4_end_64 : decode cX4_end 64 = .ok (.iinc 2 1, 3) := by decide +kernel
theorem dX4_end_67 : decode cX4_end 67 = .ok (.goto (-54), 3) := by decide +kernel
theorem dX4_end_70 : decode cX4_end 70 = .ok (.return_, 1) := by decide +kernel
theorem dX4_endOf_0 : decode cX4_endOf 0 = .ok (.aload_n 0, 1) := by decide +kernel
theorem dX4_endOf_1 : decode cX4_endOf 1 = .ok (.getfield 7, 3) := by decide +kernel
theorem dX4_endOf_4 : decode cX4_endOf 4 = .ok (.bipush 87, 2) := by decide +kernel
theorem dX4_endOf_6 : decode cX4_endOf 6 = .ok (.iload_n 1, 1) := by decide +kernel
theorem dX4_endOf_7 : decode cX4_endOf 7 = .ok (.iadd, 1) := by decide +kernel
theorem dX4_endOf_8 : decode cX4_endOf 8 = .ok (.iaload, 1) := by decide +kernel
theorem dX4_endOf_9 : decode cX4_endOf 9 = .ok (.aload_n 0, 1) := by decide +kernel
theorem dX4_endOf_10 : decode cX4_endOf 10 = .ok (.getfield 7, 3) := by decide +kernel
theorem dX4_endOf_13 : decode cX4_endOf 13 = .ok (.iconst 3, 1) := by decide +kernel
theorem dX4_endOf_14 : decode cX4_endOf 14 = .ok (.aload_n 0, 1) := by decide +kernel
theorem dX4_endOf_15 : decode cX4_endOf 15 = .ok (.getfield 7, 3) := by decide +kernel
theorem dX4_endOf_18 : decode cX4_endOf 18 = .ok (.bipush 71, 2) := by decide +kernel
theorem dX4_endOf_20 : decode cX4_endOf 20 = .ok (.iload_n 1, 1) := by decide +kernel
theorem dX4_endOf_21 : decode cX4_endOf 21 = .ok (.iadd, 1) := by decide +kernel
theorem dX4_endOf_22 : decode cX4_endOf 22 = .ok (.iaload, 1) := by decide +kernel
theorem dX4_endOf_23 : decode cX4_endOf 23 = .ok (.iadd, 1) := by decide +kernel
theorem dX4_endOf_24 : decode cX4_endOf 24 = .ok (.iaload, 1) := by decide +kernel
theorem dX4_endOf_25 : decode cX4_endOf 25 = .ok (.iadd, 1) := by decide +kernel
theorem dX4_endOf_26 : decode cX4_endOf 26 = .ok (.ireturn, 1) := by decide +kernel
theorem dX4_lapse_0 : decode cX4_lapse 0 = .ok (.iconst 0, 1) := by decide +kernel
theorem dX4_lapse_1 : decode cX4_lapse 1 = .ok (.istore_n 1, 1) := by decide +kernel
theorem dX4_lapse_2 : decode cX4_lapse 2 = .ok (.iconst 0, 1) := by decide +kernel
theorem dX4_lapse_3 : decode cX4_lapse 3 = .ok (.istore_n 2, 1) := by decide +kernel
theorem dX4_lapse_4 : decode cX4_lapse 4 = .ok (.iload_n 2, 1) := by decide +kernel
theorem dX4_lapse_5 : decode cX4_lapse 5 = .ok (.bipush 16, 2) := by decide +kernel
theorem dX4_lapse_7 : decode cX4_lapse 7 = .ok (.if_icmp .ge 40, 3) := by decide +kernel
theorem dX4_lapse_10 : decode cX4_lapse 10 = .ok (.aload_n 0, 1) := by decide +kernel
theorem dX4_lapse_11 : decode cX4_lapse 11 = .ok (.iload_n 2, 1) := by decide +kernel
theorem dX4_lapse_12 : decode cX4_lapse 12 = .ok (.invokevirtual 24, 3) := by decide +kernel
theorem dX4_lapse_15 : decode cX4_lapse 15 = .ok (.ifCond .eq 26, 3) := by decide +kernel
theorem dX4_lapse_18 : decode cX4_lapse 18 = .ok (.aload_n 0, 1) := by decide +kernel
theorem dX4_lapse_19 : decode cX4_lapse 19 = .ok (.getfield 7, 3) := by decide +kernel
theorem dX4_lapse_22 : decode cX4_lapse 22 = .ok (.bipush 6, 2) := by decide +kernel
theorem dX4_lapse_24 : decode cX4_lapse 24 = .ok (.iaload, 1) := by decide +kernel
theorem dX4_lapse_25 : decode cX4_lapse 25 = .ok (.aload_n 0, 1) := by decide +kernel
theorem dX4_lapse_26 : decode cX4_lapse 26 = .ok (.iload_n 2, 1) := by decide +kernel
theorem dX4_lapse_27 : decode cX4_lapse 27 = .ok (.invokevirtual 28, 3) := by decide +kernel
theorem dX4_lapse_30 : decode cX4_lapse 30 = .ok (.if_icmp .lt 11, 3) := by decide +kernel
theorem dX4_lapse_33 : decode cX4_lapse 33 = .ok (.aload_n 0, 1) := by decide +kernel
theorem dX4_lapse_34 : decode cX4_lapse 34 = .ok (.iload_n 2, 1) := by decide +kernel
theorem dX4_lapse_35 : decode cX4_lapse 35 = .ok (.invokevirtual 32, 3) := by decide +kernel
theorem dX4_lapse_38 : decode cX4_lapse 38 = .ok (.iinc 1 1, 3) := by decide +kernel
theorem dX4_lapse_41 : decode cX4_lapse 41 = .ok (.iinc 2 1, 3) := by decide +kernel
theorem dX4_lapse_44 : decode cX4_lapse 44 = .ok (.goto (-40), 3) := by decide +kernel
theorem dX4_lapse_47 : decode cX4_lapse 47 = .ok (.iload_n 1, 1) := by decide +kernel
theorem dX4_lapse_48 : decode cX4_lapse 48 = .ok (.ireturn, 1) := by decide +kernel
theorem dX4_least_0 : decode cX4_least 0 = .ok (.iload_n 0, 1) := by decide +kernel
theorem dX4_least_1 : decode cX4_least 1 = .ok (.iconst 3, 1) := by decide +kernel
theorem dX4_least_2 : decode cX4_least 2 = .ok (.if_icmp .ge 7, 3) := by decide +kernel
theorem dX4_least_5 : decode cX4_least 5 = .ok (.iconst 0, 1) := by decide +kernel
theorem dX4_least_6 : decode cX4_least 6 = .ok (.goto 4, 3) := by decide +kernel
theorem dX4_least_9 : decode cX4_least 9 = .ok (.iconst 1, 1) := by decide +kernel
theorem dX4_least_10 : decode cX4_least 10 = .ok (.ireturn, 1) := by decide +kernel
theorem dX4_most_0 : decode cX4_most 0 = .ok (.iload_n 0, 1) := by decide +kernel
theorem dX4_most_1 : decode cX4_most 1 = .ok (.iconst 2, 1) := by decide +kernel
theorem dX4_most_2 : decode cX4_most 2 = .ok (.if_icmp .ge 7, 3) := by decide +kernel
theorem dX4_most_5 : decode cX4_most 5 = .ok (.iconst 2, 1) := by decide +kernel
theorem dX4_most_6 : decode cX4_most 6 = .ok (.goto 14, 3) := by decide +kernel
theorem dX4_most_9 : decode cX4_most 9 = .ok (.iload_n 0, 1) := by decide +kernel
theorem dX4_most_10 : decode cX4_most 10 = .ok (.iconst 2, 1) := by decide +kernel
theorem dX4_most_11 : decode cX4_most 11 = .ok (.if_icmp .ne 7, 3) := by decide +kernel
theorem dX4_most_14 : decode cX4_most 14 = .ok (.iconst 1, 1) := by decide +kernel
theorem dX4_most_15 : decode cX4_most 15 = .ok (.goto 5, 3) := by decide +kernel
theorem dX4_most_18 : decode cX4_most 18 = .ok (.bipush 60, 2) := by decide +kernel
theorem dX4_most_20 : decode cX4_most 20 = .ok (.ireturn, 1) := by decide +kernel
theorem dX4_rule_0 : decode cX4_rule 0 = .ok (.iload_n 1, 1) := by decide +kernel
theorem dX4_rule_1 : decode cX4_rule 1 = .ok (.iconst 0, 1) := by decide +kernel
theorem dX4_rule_2 : decode cX4_rule 2 = .ok (.iconst 5, 1) := by decide +kernel
theorem dX4_rule_3 : decode cX4_rule 3 = .ok (.invokestatic 20, 3) := by decide +kernel
theorem dX4_rule_6 : decode cX4_rule 6 = .ok (.ifCond .eq 18, 3) := by decide +kernel
theorem dX4_rule_9 : decode cX4_rule 9 = .ok (.iload_n 2, 1) := by decide +kernel
theorem dX4_rule_10 : decode cX4_rule 10 = .ok (.iload_n 1, 1) := by decide +kernel
theorem dX4_rule_11 : decode cX4_rule 11 = .ok (.invokestatic 36, 3) := by decide +kernel
theorem dX4_rule_14 : decode cX4_rule 14 = .ok (.iload_n 1, 1) := by decide +kernel
theorem dX4_rule_15 : decode cX4_rule 15 = .ok (.invokestatic 39, 3) := by decide +kernel
theorem dX4_rule_18 : decode cX4_rule 18 = .ok (.invokestatic 20, 3) := by decide +kernel
theorem dX4_rule_21 : decode cX4_rule 21 = .ok (.ifCond .ne 6, 3) := by decide +kernel
theorem dX4_rule_24 : decode cX4_rule 24 = .ok (.bipush (-2), 2) := by decide +kernel
theorem dX4_rule_26 : decode cX4_rule 26 = .ok (.ireturn, 1) := by decide +kernel
theorem dX4_rule_27 : decode cX4_rule 27 = .ok (.aload_n 0, 1) := by decide +kernel
theorem dX4_rule_28 : decode cX4_rule 28 = .ok (.getfield 7, 3) := by decide +kernel
theorem dX4_rule_31 : decode cX4_rule 31 = .ok (.iload_n 1, 1) := by decide +kernel
theorem dX4_rule_32 : decode cX4_rule 32 = .ok (.iaload, 1) := by decide +kernel
theorem dX4_rule_33 : decode cX4_rule 33 = .ok (.istore_n 3, 1) := by decide +kernel
theorem dX4_rule_34 : decode cX4_rule 34 = .ok (.aload_n 0, 1) := by decide +kernel
theorem dX4_rule_35 : decode cX4_rule 35 = .ok (.getfield 7, 3) := by decide +kernel
theorem dX4_rule_38 : decode cX4_rule 38 = .ok (.iload_n 1, 1) := by decide +kernel
theorem dX4_rule_39 : decode cX4_rule 39 = .ok (.iload_n 2, 1) := by decide +kernel
theorem dX4_rule_40 : decode cX4_rule 40 = .ok (.iastore, 1) := by decide +kernel
theorem dX4_rule_41 : decode cX4_rule 41 = .ok (.iconst 0, 1) := by decide +kernel
theorem dX4_rule_42 : decode cX4_rule 42 = .ok (.istore 4, 2) := by decide +kernel
theorem dX4_rule_44 : decode cX4_rule 44 = .ok (.iload 4, 2) := by decide +kernel
theorem dX4_rule_46 : decode cX4_rule 46 = .ok (.bipush 16, 2) := by decide +kernel
theorem dX4_rule_48 : decode cX4_rule 48 = .ok (.if_icmp .ge 33, 3) := by decide +kernel
theorem dX4_rule_51 : decode cX4_rule 51 = .ok (.iload_n 1, 1) := by decide +kernel
theorem dX4_rule_52 : decode cX4_rule 52 = .ok (.ifCond .ne 29, 3) := by decide +kernel
theorem dX4_rule_55 : decode cX4_rule 55 = .ok (.iload_n 2, 1) := by decide +kernel
theorem dX4_rule_56 : decode cX4_rule 56 = .ok (.iload_n 3, 1) := by decide +kernel
theorem dX4_rule_57 : decode cX4_rule 57 = .ok (.if_icmp .eq 24, 3) := by decide +kernel
theorem dX4_rule_60 : decode cX4_rule 60 = .ok (.aload_n 0, 1) := by decide +kernel
theorem dX4_rule_61 : decode cX4_rule 61 = .ok (.iload 4, 2) := by decide +kernel
theorem dX4_rule_63 : decode cX4_rule 63 = .ok (.invokevirtual 24, 3) := by decide +kernel
theorem dX4_rule_66 : decode cX4_rule 66 = .ok (.ifCond .eq 9, 3) := by decide +kernel
theorem dX4_rule_69 : decode cX4_rule 69 = .ok (.aload_n 0, 1) := by decide +kernel
theorem dX4_rule_70 : decode cX4_rule 70 = .ok (.iload 4, 2) := by decide +kernel
theorem dX4_rule_72 : decode cX4_rule 72 = .ok (.invokevirtual 32, 3) := by decide +kernel
theorem dX4_rule_75 : decode cX4_rule 75 = .ok (.iinc 4 1, 3) := by decide +kernel
theorem dX4_rule_78 : decode cX4_rule 78 = .ok (.goto (-34), 3) := by decide +kernel
theorem dX4_rule_81 : decode cX4_rule 81 = .ok (.aload_n 0, 1) := by decide +kernel
theorem dX4_rule_82 : decode cX4_rule 82 = .ok (.invokevirtual 42, 3) := by decide +kernel
theorem dX4_rule_85 : decode cX4_rule 85 = .ok (.pop, 1) := by decide +kernel
theorem dX4_rule_86 : decode cX4_rule 86 = .ok (.iload_n 3, 1) := by decide +kernel
theorem dX4_rule_87 : decode cX4_rule 87 = .ok (.ireturn, 1) := by decide +kernel
theorem dX4_bindingOf_0 : decode cX4_bindingOf 0 = .ok (.bipush (-6), 2) := by decide +kernel
theorem dX4_bindingOf_2 : decode cX4_bindingOf 2 = .ok (.istore 5, 2) := by decide +kernel
theorem dX4_bindingOf_4 : decode cX4_bindingOf 4 = .ok (.iconst 0, 1) := by decide +kernel
theorem dX4_bindingOf_5 : decode cX4_bindingOf 5 = .ok (.istore 6, 2) := by decide +kernel
theorem dX4_bindingOf_7 : decode cX4_bindingOf 7 = .ok (.iload 6, 2) := by decide +kernel
theorem dX4_bindingOf_9 : decode cX4_bindingOf 9 = .ok (.bipush 16, 2) := by decide +kernel
theorem dX4_bindingOf_11 : decode cX4_bindingOf 11 = .ok (.if_icmp .ge 130, 3) := by decide +kernel
theorem dX4_bindingOf_14 : decode cX4_bindingOf 14 = .ok (.aload_n 0, 1) := by decide +kernel
theorem dX4_bindingOf_15 : decode cX4_bindingOf 15 = .ok (.getfield 7, 3) := by decide +kernel
theorem dX4_bindingOf_18 : decode cX4_bindingOf 18 = .ok (.bipush 7, 2) := by decide +kernel
theorem dX4_bindingOf_20 : decode cX4_bindingOf 20 = .ok (.iload 6, 2) := by decide +kernel
theorem dX4_bindingOf_22 : decode cX4_bindingOf 22 = .ok (.iadd, 1) := by decide +kernel
theorem dX4_bindingOf_23 : decode cX4_bindingOf 23 = .ok (.iaload, 1) := by decide +kernel
theorem dX4_bindingOf_24 : decode cX4_bindingOf 24 = .ok (.iload_n 1, 1) := by decide +kernel
theorem dX4_bindingOf_25 : decode cX4_bindingOf 25 = .ok (.if_icmp .ne 21, 3) := by decide +kernel
theorem dX4_bindingOf_28 : decode cX4_bindingOf 28 = .ok (.aload_n 0, 1) := by decide +kernel
theorem dX4_bindingOf_29 : decode cX4_bindingOf 29 = .ok (.getfield 7, 3) := by decide +kernel
theorem dX4_bindingOf_32 : decode cX4_bindingOf 32 = .ok (.bipush 23, 2) := by decide +kernel
theorem dX4_bindingOf_34 : decode cX4_bindingOf 34 = .ok (.iload 6, 2) := by decide +kernel
theorem dX4_bindingOf_36 : decode cX4_bindingOf 36 = .ok (.iadd, 1) := by decide +kernel
theorem dX4_bindingOf_37 : decode cX4_bindingOf 37 = .ok (.iaload, 1) := by decide +kernel
theorem dX4_bindingOf_38 : decode cX4_bindingOf 38 = .ok (.iload_n 2, 1) := by decide +kernel
theorem dX4_bindingOf_39 : decode cX4_bindingOf 39 = .ok (.if_icmp .ne 7, 3) := by decide +kernel
theorem dX4_bindingOf_42 : decode cX4_bindingOf 42 = .ok (.iconst 1, 1) := by decide +kernel
theorem dX4_bindingOf_43 : decode cX4_bindingOf 43 = .ok (.goto 4, 3) := by decide +kernel
theorem dX4_bindingOf_46 : decode cX4_bindingOf 46 = .ok (.iconst 0, 1) := by decide +kernel
theorem dX4_bindingOf_47 : decode cX4_bindingOf 47 = .ok (.istore 7, 2) := by decide +kernel
theorem dX4_bindingOf_49 : decode cX4_bindingOf 49 = .ok (.iload 7, 2) := by decide +kernel
theorem dX4_bindingOf_51 : decode cX4_bindingOf 51 = .ok (.ifCond .eq 30, 3) := by decide +kernel
theorem dX4_bindingOf_54 : decode cX4_bindingOf 54 = .ok (.aload_n 0, 1) := by decide +kernel
theorem dX4_bindingOf_55 : decode cX4_bindingOf 55 = .ok (.getfield 7, 3) := by decide +kernel
theorem dX4_bindingOf_58 : decode cX4_bindingOf 58 = .ok (.iconst 0, 1) := by decide +kernel
theorem dX4_bindingOf_59 : decode cX4_bindingOf 59 = .ok (.iaload, 1) := by decide +kernel
theorem dX4_bindingOf_60 : decode cX4_bindingOf 60 = .ok (.ifCond .eq 17, 3) := by decide +kernel
theorem dX4_bindingOf_63 : decode cX4_bindingOf 63 = .ok (.aload_n 0, 1) := by decide +kernel
theorem dX4_bindingOf_64 : decode cX4_bindingOf 64 = .ok (.getfield 7, 3) := by decide +kernel
theorem dX4_bindingOf_67 : decode cX4_bindingOf 67 = .ok (.bipush 39, 2) := by decide +kernel
theorem dX4_bindingOf_69 : decode cX4_bindingOf 69 = .ok (.iload 6, 2) := by decide +kernel
theorem dX4_bindingOf_71 : decode cX4_bindingOf 71 = .ok (.iadd, 1) := by decide +kernel
theorem dX4_bindingOf_72 : decode cX4_bindingOf 72 = .ok (.iaload, 1) := by decide +kernel
theorem dX4_bindingOf_73 : decode cX4_bindingOf 73 = .ok (.iload_n 3, 1) := by decide +kernel
theorem dX4_bindingOf_74 : decode cX4_bindingOf 74 = .ok (.if_icmp .ne 7, 3) := by decide +kernel
theorem dX4_bindingOf_77 : decode cX4_bindingOf 77 = .ok (.iconst 1, 1) := by decide +kernel
theorem dX4_bindingOf_78 : decode cX4_bindingOf 78 = .ok (.goto 4, 3) := by decide +kernel
theorem dX4_bindingOf_81 : decode cX4_bindingOf 81 = .ok (.iconst 0, 1) := by decide +kernel
theorem dX4_bindingOf_82 : decode cX4_bindingOf 82 = .ok (.istore 7, 2) := by decide +kernel
theorem dX4_bindingOf_84 : decode cX4_bindingOf 84 = .ok (.iload 7, 2) := by decide +kernel
theorem dX4_bindingOf_86 : decode cX4_bindingOf 86 = .ok (.ifCond .eq 32, 3) := by decide +kernel
theorem dX4_bindingOf_89 : decode cX4_bindingOf 89 = .ok (.aload_n 0, 1) := by decide +kernel
theorem dX4_bindingOf_90 : decode cX4_bindingOf 90 = .ok (.getfield 7, 3) := by decide +kernel
theorem dX4_bindingOf_93 : decode cX4_bindingOf 93 = .ok (.iconst 0, 1) := by decide +kernel
theorem dX4_bindingOf_94 : decode cX4_bindingOf 94 = .ok (.iaload, 1) := by decide +kernel
theorem dX4_bindingOf_95 : decode cX4_bindingOf 95 = .ok (.iconst 2, 1) := by decide +kernel
theorem dX4_bindingOf_96 : decode cX4_bindingOf 96 = .ok (.if_icmp .lt 18, 3) := by decide +kernel
theorem dX4_bindingOf_99 : decode cX4_bindingOf 99 = .ok (.aload_n 0, 1) := by decide +kernel
theorem dX4_bindingOf_100 : decode cX4_bindingOf 100 = .ok (.getfield 7, 3) := by decide +kernel
theorem dX4_bindingOf_103 : decode cX4_bindingOf 103 = .ok (.bipush 55, 2) := by decide +kernel
theorem dX4_bindingOf_105 : decode cX4_bindingOf 105 = .ok (.iload 6, 2) := by decide +kernel
theorem dX4_bindingOf_107 : decode cX4_bindingOf 107 = .ok (.iadd, 1) := by decide +kernel
theorem dX4_bindingOf_108 : decode cX4_bindingOf 108 = .ok (.iaload, 1) := by decide +kernel
theorem dX4_bindingOf_109 : decode cX4_bindingOf 109 = .ok (.iload 4, 2) := by decide +kernel
theorem dX4_bindingOf_111 : decode cX4_bindingOf 111 = .ok (.if_icmp .ne 7, 3) := by decide +kernel
theorem dX4_bindingOf_114 : decode cX4_bindingOf 114 = .ok (.iconst 1, 1) := by decide +kernel
theorem dX4_bindingOf_115 : decode cX4_bindingOf 115 = .ok (.goto 4, 3) := by decide +kernel
theorem dX4_bindingOf_118 : decode cX4_bindingOf 118 = .ok (.iconst 0, 1) := by decide +kernel
theorem dX4_bindingOf_119 : decode cX4_bindingOf 119 = .ok (.istore 7, 2) := by decide +kernel
theorem dX4_bindingOf_121 : decode cX4_bindingOf 121 = .ok (.iload 7, 2) := by decide +kernel
theorem dX4_bindingOf_123 : decode cX4_bindingOf 123 = .ok (.ifCond .eq 8, 3) := by decide +kernel
theorem dX4_bindingOf_126 : decode cX4_bindingOf 126 = .ok (.iload 6, 2) := by decide +kernel
theorem dX4_bindingOf_128 : decode cX4_bindingOf 128 = .ok (.goto 5, 3) := by decide +kernel
theorem dX4_bindingOf_131 : decode cX4_bindingOf 131 = .ok (.iload 5, 2) := by decide +kernel
theorem dX4_bindingOf_133 : decode cX4_bindingOf 133 = .ok (.istore 5, 2) := by decide +kernel
theorem dX4_bindingOf_135 : decode cX4_bindingOf 135 = .ok (.iinc 6 1, 3) := by decide +kernel
theorem dX4_bindingOf_138 : decode cX4_bindingOf 138 = .ok (.goto (-131), 3) := by decide +kernel
theorem dX4_bindingOf_141 : decode cX4_bindingOf 141 = .ok (.iload 5, 2) := by decide +kernel
theorem dX4_bindingOf_143 : decode cX4_bindingOf 143 = .ok (.ireturn, 1) := by decide +kernel
theorem dX4_blockOf_0 : decode cX4_blockOf 0 = .ok (.bipush (-6), 2) := by decide +kernel
theorem dX4_blockOf_2 : decode cX4_blockOf 2 = .ok (.istore_n 2, 1) := by decide +kernel
theorem dX4_blockOf_3 : decode cX4_blockOf 3 = .ok (.iconst 4, 1) := by decide +kernel
theorem dX4_blockOf_4 : decode cX4_blockOf 4 = .ok (.iload_n 1, 1) := by decide +kernel
theorem dX4_blockOf_5 : decode cX4_blockOf 5 = .ok (.imul, 1) := by decide +kernel
theorem dX4_blockOf_6 : decode cX4_blockOf 6 = .ok (.istore_n 3, 1) := by decide +kernel
theorem dX4_blockOf_7 : decode cX4_blockOf 7 = .ok (.iload_n 3, 1) := by decide +kernel
theorem dX4_blockOf_8 : decode cX4_blockOf 8 = .ok (.iconst 4, 1) := by decide +kernel
theorem dX4_blockOf_9 : decode cX4_blockOf 9 = .ok (.iload_n 1, 1) := by decide +kernel
theorem dX4_blockOf_10 : decode cX4_blockOf 10 = .ok (.imul, 1) := by decide +kernel
theorem dX4_blockOf_11 : decode cX4_blockOf 11 = .ok (.iconst 4, 1) := by decide +kernel
theorem dX4_blockOf_12 : decode cX4_blockOf 12 = .ok (.iadd, 1) := by decide +kernel
theorem dX4_blockOf_13 : decode cX4_blockOf 13 = .ok (.if_icmp .ge 31, 3) := by decide +kernel
theorem dX4_blockOf_16 : decode cX4_blockOf 16 = .ok (.aload_n 0, 1) := by decide +kernel
theorem dX4_blockOf_17 : decode cX4_blockOf 17 = .ok (.iload_n 3, 1) := by decide +kernel
theorem dX4_blockOf_18 : decode cX4_blockOf 18 = .ok (.invokevirtual 24, 3) := by decide +kernel
theorem dX4_blockOf_21 : decode cX4_blockOf 21 = .ok (.ifCond .eq 15, 3) := by decide +kernel
theorem dX4_blockOf_24 : decode cX4_blockOf 24 = .ok (.aload_n 0, 1) := by decide +kernel
theorem dX4_blockOf_25 : decode cX4_blockOf 25 = .ok (.getfield 7, 3) := by decide +kernel
theorem dX4_blockOf_28 : decode cX4_blockOf 28 = .ok (.bipush 7, 2) := by decide +kernel
theorem dX4_blockOf_30 : decode cX4_blockOf 30 = .ok (.iload_n 3, 1) := by decide +kernel
theorem dX4_blockOf_31 : decode cX4_blockOf 31 = .ok (.iadd, 1) := by decide +kernel
theorem dX4_blockOf_32 : decode cX4_blockOf 32 = .ok (.iaload, 1) := by decide +kernel
theorem dX4_blockOf_33 : decode cX4_blockOf 33 = .ok (.goto 4, 3) := by decide +kernel
theorem dX4_blockOf_36 : decode cX4_blockOf 36 = .ok (.iload_n 2, 1) := by decide +kernel
theorem dX4_blockOf_37 : decode cX4_blockOf 37 = .ok (.istore_n 2, 1) := by decide +kernel
theorem dX4_blockOf_38 : decode cX4_blockOf 38 = .ok (.iinc 3 1, 3) := by decide +kernel
theorem dX4_blockOf_41 : decode cX4_blockOf 41 = .ok (.goto (-34), 3) := by decide +kernel
theorem dX4_blockOf_44 : decode cX4_blockOf 44 = .ok (.iload_n 2, 1) := by decide +kernel
theorem dX4_blockOf_45 : decode cX4_blockOf 45 = .ok (.ireturn, 1) := by decide +kernel
theorem dX4_fits_0 : decode cX4_fits 0 = .ok (.aload_n 0, 1) := by decide +kernel
theorem dX4_fits_1 : decode cX4_fits 1 = .ok (.iload_n 1, 1) := by decide +kernel
theorem dX4_fits_2 : decode cX4_fits 2 = .ok (.invokevirtual 24, 3) := by decide +kernel
theorem dX4_fits_5 : decode cX4_fits 5 = .ok (.ifCond .ne 25, 3) := by decide +kernel
theorem dX4_fits_8 : decode cX4_fits 8 = .ok (.aload_n 0, 1) := by decide +kernel
theorem dX4_fits_9 : decode cX4_fits 9 = .ok (.getfield 7, 3) := by decide +kernel
theorem dX4_fits_12 : decode cX4_fits 12 = .ok (.iconst 2, 1) := by decide +kernel
theorem dX4_fits_13 : decode cX4_fits 13 = .ok (.iaload, 1) := by decide +kernel
theorem dX4_fits_14 : decode cX4_fits 14 = .ok (.ifCond .eq 12, 3) := by decide +kernel
theorem dX4_fits_17 : decode cX4_fits 17 = .ok (.iload_n 1, 1) := by decide +kernel
theorem dX4_fits_18 : decode cX4_fits 18 = .ok (.iconst 2, 1) := by decide +kernel
theorem dX4_fits_19 : decode cX4_fits 19 = .ok (.irem, 1) := by decide +kernel
theorem dX4_fits_20 : decode cX4_fits 20 = .ok (.iload_n 2, 1) := by decide +kernel
theorem dX4_fits_21 : decode cX4_fits 21 = .ok (.iconst 2, 1) := by decide +kernel
theorem dX4_fits_22 : decode cX4_fits 22 = .ok (.irem, 1) := by decide +kernel
theorem dX4_fits_23 : decode cX4_fits 23 = .ok (.if_icmp .ne 7, 3) := by decide +kernel
theorem dX4_fits_26 : decode cX4_fits 26 = .ok (.iconst 1, 1) := by decide +kernel
theorem dX4_fits_27 : decode cX4_fits 27 = .ok (.goto 4, 3) := by decide +kernel
theorem dX4_fits_30 : decode cX4_fits 30 = .ok (.iconst 0, 1) := by decide +kernel
theorem dX4_fits_31 : decode cX4_fits 31 = .ok (.ireturn, 1) := by decide +kernel
theorem dX4_leastOf_0 : decode cX4_leastOf 0 = .ok (.iconst 0, 1) := by decide +kernel
theorem dX4_leastOf_1 : decode cX4_leastOf 1 = .ok (.istore_n 3, 1) := by decide +kernel
theorem dX4_leastOf_2 : decode cX4_leastOf 2 = .ok (.iload_n 3, 1) := by decide +kernel
theorem dX4_leastOf_3 : decode cX4_leastOf 3 = .ok (.bipush 16, 2) := by decide +kernel
theorem dX4_leastOf_5 : decode cX4_leastOf 5 = .ok (.if_icmp .ge 31, 3) := by decide +kernel
theorem dX4_leastOf_8 : decode cX4_leastOf 8 = .ok (.aload_n 0, 1) := by decide +kernel
theorem dX4_leastOf_9 : decode cX4_leastOf 9 = .ok (.iload_n 3, 1) := by decide +kernel
theorem dX4_leastOf_10 : decode cX4_leastOf 10 = .ok (.iconst 4, 1) := by decide +kernel
theorem dX4_leastOf_11 : decode cX4_leastOf 11 = .ok (.idiv, 1) := by decide +kernel
theorem dX4_leastOf_12 : decode cX4_leastOf 12 = .ok (.invokevirtual 46, 3) := by decide +kernel
theorem dX4_leastOf_15 : decode cX4_leastOf 15 = .ok (.iload_n 1, 1) := by decide +kernel
theorem dX4_leastOf_16 : decode cX4_leastOf 16 = .ok (.if_icmp .ne 14, 3) := by decide +kernel
theorem dX4_leastOf_19 : decode cX4_leastOf 19 = .ok (.aload_n 0, 1) := by decide +kernel
theorem dX4_leastOf_20 : decode cX4_leastOf 20 = .ok (.iload_n 3, 1) := by decide +kernel
theorem dX4_leastOf_21 : decode cX4_leastOf 21 = .ok (.iload_n 2, 1) := by decide +kernel
theorem dX4_leastOf_22 : decode cX4_leastOf 22 = .ok (.invokevirtual 49, 3) := by decide +kernel
theorem dX4_leastOf_25 : decode cX4_leastOf 25 = .ok (.ifCond .eq 5, 3) := by decide +kernel
theorem dX4_leastOf_28 : decode cX4_leastOf 28 = .ok (.iload_n 3, 1) := by decide +kernel
theorem dX4_leastOf_29 : decode cX4_leastOf 29 = .ok (.ireturn, 1) := by decide +kernel
theorem dX4_leastOf_30 : decode cX4_leastOf 30 = .ok (.iinc 3 1, 3) := by decide +kernel
theorem dX4_leastOf_33 : decode cX4_leastOf 33 = .ok (.goto (-31), 3) := by decide +kernel
theorem dX4_leastOf_36 : decode cX4_leastOf 36 = .ok (.bipush (-6), 2) := by decide +kernel
theorem dX4_leastOf_38 : decode cX4_leastOf 38 = .ok (.ireturn, 1) := by decide +kernel
theorem dX4_chosen_0 : decode cX4_chosen 0 = .ok (.iload_n 2, 1) := by decide +kernel
theorem dX4_chosen_1 : decode cX4_chosen 1 = .ok (.bipush 16, 2) := by decide +kernel
theorem dX4_chosen_3 : decode cX4_chosen 3 = .ok (.irem, 1) := by decide +kernel
theorem dX4_chosen_4 : decode cX4_chosen 4 = .ok (.istore_n 3, 1) := by decide +kernel
theorem dX4_chosen_5 : decode cX4_chosen 5 = .ok (.aload_n 0, 1) := by decide +kernel
theorem dX4_chosen_6 : decode cX4_chosen 6 = .ok (.iload_n 3, 1) := by decide +kernel
theorem dX4_chosen_7 : decode cX4_chosen 7 = .ok (.iconst 4, 1) := by decide +kernel
theorem dX4_chosen_8 : decode cX4_chosen 8 = .ok (.idiv, 1) := by decide +kernel
theorem dX4_chosen_9 : decode cX4_chosen 9 = .ok (.invokevirtual 46, 3) := by decide +kernel
theorem dX4_chosen_12 : decode cX4_chosen 12 = .ok (.iload_n 1, 1) := by decide +kernel
theorem dX4_chosen_13 : decode cX4_chosen 13 = .ok (.if_icmp .ne 14, 3) := by decide +kernel
theorem dX4_chosen_16 : decode cX4_chosen 16 = .ok (.aload_n 0, 1) := by decide +kernel
theorem dX4_chosen_17 : decode cX4_chosen 17 = .ok (.iload_n 3, 1) := by decide +kernel
theorem dX4_chosen_18 : decode cX4_chosen 18 = .ok (.iload_n 2, 1) := by decide +kernel
theorem dX4_chosen_19 : decode cX4_chosen 19 = .ok (.invokevirtual 49, 3) := by decide +kernel
theorem dX4_chosen_22 : decode cX4_chosen 22 = .ok (.ifCond .eq 5, 3) := by decide +kernel
theorem dX4_chosen_25 : decode cX4_chosen 25 = .ok (.iload_n 3, 1) := by decide +kernel
theorem dX4_chosen_26 : decode cX4_chosen 26 = .ok (.ireturn, 1) := by decide +kernel
theorem dX4_chosen_27 : decode cX4_chosen 27 = .ok (.aload_n 0, 1) := by decide +kernel
theorem dX4_chosen_28 : decode cX4_chosen 28 = .ok (.iload_n 1, 1) := by decide +kernel
theorem dX4_chosen_29 : decode cX4_chosen 29 = .ok (.iload_n 2, 1) := by decide +kernel
theorem dX4_chosen_30 : decode cX4_chosen 30 = .ok (.invokevirtual 53, 3) := by decide +kernel
theorem dX4_chosen_33 : decode cX4_chosen 33 = .ok (.istore 4, 2) := by decide +kernel
theorem dX4_chosen_35 : decode cX4_chosen 35 = .ok (.iload 4, 2) := by decide +kernel
theorem dX4_chosen_37 : decode cX4_chosen 37 = .ok (.ifCond .lt 6, 3) := by decide +kernel
theorem dX4_chosen_40 : decode cX4_chosen 40 = .ok (.iload 4, 2) := by decide +kernel
theorem dX4_chosen_42 : decode cX4_chosen 42 = .ok (.ireturn, 1) := by decide +kernel
theorem dX4_chosen_43 : decode cX4_chosen 43 = .ok (.aload_n 0, 1) := by decide +kernel
theorem dX4_chosen_44 : decode cX4_chosen 44 = .ok (.iload_n 3, 1) := by decide +kernel
theorem dX4_chosen_45 : decode cX4_chosen 45 = .ok (.iconst 4, 1) := by decide +kernel
theorem dX4_chosen_46 : decode cX4_chosen 46 = .ok (.idiv, 1) := by decide +kernel
theorem dX4_chosen_47 : decode cX4_chosen 47 = .ok (.invokevirtual 46, 3) := by decide +kernel
theorem dX4_chosen_50 : decode cX4_chosen 50 = .ok (.bipush (-6), 2) := by decide +kernel
theorem dX4_chosen_52 : decode cX4_chosen 52 = .ok (.if_icmp .ne 7, 3) := by decide +kernel
theorem dX4_chosen_55 : decode cX4_chosen 55 = .ok (.iload_n 3, 1) := by decide +kernel
theorem dX4_chosen_56 : decode cX4_chosen 56 = .ok (.goto 10, 3) := by decide +kernel
theorem dX4_chosen_59 : decode cX4_chosen 59 = .ok (.aload_n 0, 1) := by decide +kernel
theorem dX4_chosen_60 : decode cX4_chosen 60 = .ok (.bipush (-6), 2) := by decide +kernel
theorem dX4_chosen_62 : decode cX4_chosen 62 = .ok (.iload_n 2, 1) := by decide +kernel
theorem dX4_chosen_63 : decode cX4_chosen 63 = .ok (.invokevirtual 53, 3) := by decide +kernel
theorem dX4_chosen_66 : decode cX4_chosen 66 = .ok (.ireturn, 1) := by decide +kernel
theorem dX4_make_0 : decode cX4_make 0 = .ok (.aload_n 0, 1) := by decide +kernel
theorem dX4_make_1 : decode cX4_make 1 = .ok (.getfield 7, 3) := by decide +kernel
theorem dX4_make_4 : decode cX4_make 4 = .ok (.bipush 7, 2) := by decide +kernel
theorem dX4_make_6 : decode cX4_make 6 = .ok (.iload_n 1, 1) := by decide +kernel
theorem dX4_make_7 : decode cX4_make 7 = .ok (.iadd, 1) := by decide +kernel
theorem dX4_make_8 : decode cX4_make 8 = .ok (.iload_n 2, 1) := by decide +kernel
theorem dX4_make_9 : decode cX4_make 9 = .ok (.iastore, 1) := by decide +kernel
theorem dX4_make_10 : decode cX4_make 10 = .ok (.aload_n 0, 1) := by decide +kernel
theorem dX4_make_11 : decode cX4_make 11 = .ok (.getfield 7, 3) := by decide +kernel
theorem dX4_make_14 : decode cX4_make 14 = .ok (.bipush 23, 2) := by decide +kernel
theorem dX4_make_16 : decode cX4_make 16 = .ok (.iload_n 1, 1) := by decide +kernel
theorem dX4_make_17 : decode cX4_make 17 = .ok (.iadd, 1) := by decide +kernel
theorem dX4_make_18 : decode cX4_make 18 = .ok (.iload_n 3, 1) := by decide +kernel
theorem dX4_make_19 : decode cX4_make 19 = .ok (.iastore, 1) := by decide +kernel
theorem dX4_make_20 : decode cX4_make 20 = .ok (.aload_n 0, 1) := by decide +kernel
theorem dX4_make_21 : decode cX4_make 21 = .ok (.getfield 7, 3) := by decide +kernel
theorem dX4_make_24 : decode cX4_make 24 = .ok (.bipush 39, 2) := by decide +kernel
theorem dX4_make_26 : decode cX4_make 26 = .ok (.iload_n 1, 1) := by decide +kernel
theorem dX4_make_27 : decode cX4_make 27 = .ok (.iadd, 1) := by decide +kernel
theorem dX4_make_28 : decode cX4_make 28 = .ok (.aload_n 0, 1) := by decide +kernel
theorem dX4_make_29 : decode cX4_make 29 = .ok (.getfield 7, 3) := by decide +kernel
theorem dX4_make_32 : decode cX4_make 32 = .ok (.iconst 0, 1) := by decide +kernel
theorem dX4_make_33 : decode cX4_make 33 = .ok (.iaload, 1) := by decide +kernel
theorem dX4_make_34 : decode cX4_make 34 = .ok (.ifCond .le 8, 3) := by decide +kernel
theorem dX4_make_37 : decode cX4_make 37 = .ok (.iload 4, 2) := by decide +kernel
theorem dX4_make_39 : decode cX4_make 39 = .ok (.goto 5, 3) := by decide +kernel
theorem dX4_make_42 : decode cX4_make 42 = .ok (.bipush (-6), 2) := by decide +kernel
theorem dX4_make_44 : decode cX4_make 44 = .ok (.iastore, 1) := by decide +kernel
theorem dX4_make_45 : decode cX4_make 45 = .ok (.aload_n 0, 1) := by decide +kernel
theorem dX4_make_46 : decode cX4_make 46 = .ok (.getfield 7, 3) := by decide +kernel
theorem dX4_make_49 : decode cX4_make 49 = .ok (.bipush 55, 2) := by decide +kernel
theorem dX4_make_51 : decode cX4_make 51 = .ok (.iload_n 1, 1) := by decide +kernel
theorem dX4_make_52 : decode cX4_make 52 = .ok (.iadd, 1) := by decide +kernel
theorem dX4_make_53 : decode cX4_make 53 = .ok (.aload_n 0, 1) := by decide +kernel
theorem dX4_make_54 : decode cX4_make 54 = .ok (.getfield 7, 3) := by decide +kernel
theorem dX4_make_57 : decode cX4_make 57 = .ok (.iconst 0, 1) := by decide +kernel
theorem dX4_make_58 : decode cX4_make 58 = .ok (.iaload, 1) := by decide +kernel
theorem dX4_make_59 : decode cX4_make 59 = .ok (.iconst 1, 1) := by decide +kernel
theorem dX4_make_60 : decode cX4_make 60 = .ok (.if_icmp .le 8, 3) := by decide +kernel
theorem dX4_make_63 : decode cX4_make 63 = .ok (.iload 5, 2) := by decide +kernel
theorem dX4_make_65 : decode cX4_make 65 = .ok (.goto 5, 3) := by decide +kernel
theorem dX4_make_68 : decode cX4_make 68 = .ok (.bipush (-6), 2) := by decide +kernel
theorem dX4_make_70 : decode cX4_make 70 = .ok (.iastore, 1) := by decide +kernel
theorem dX4_make_71 : decode cX4_make 71 = .ok (.aload_n 0, 1) := by decide +kernel
theorem dX4_make_72 : decode cX4_make 72 = .ok (.getfield 7, 3) := by decide +kernel
theorem dX4_make_75 : decode cX4_make 75 = .ok (.bipush 71, 2) := by decide +kernel
theorem dX4_make_77 : decode cX4_make 77 = .ok (.iload_n 1, 1) := by decide +kernel
theorem dX4_make_78 : decode cX4_make 78 = .ok (.iadd, 1) := by decide +kernel
theorem dX4_make_79 : decode cX4_make 79 = .ok (.iconst 0, 1) := by decide +kernel
theorem dX4_make_80 : decode cX4_make 80 = .ok (.iastore, 1) := by decide +kernel
theorem dX4_make_81 : decode cX4_make 81 = .ok (.iconst 0, 1) := by decide +kernel
theorem dX4_make_82 : decode cX4_make 82 = .ok (.istore 6, 2) := by decide +kernel
theorem dX4_make_84 : decode cX4_make 84 = .ok (.iload 6, 2) := by decide +kernel
theorem dX4_make_86 : decode cX4_make 86 = .ok (.iconst 4, 1) := by decide +kernel
theorem dX4_make_87 : decode cX4_make 87 = .ok (.if_icmp .gt 24, 3) := by decide +kernel
theorem dX4_make_90 : decode cX4_make 90 = .ok (.aload_n 0, 1) := by decide +kernel
theorem dX4_make_91 : decode cX4_make 91 = .ok (.getfield 7, 3) := by decide +kernel
theorem dX4_make_94 : decode cX4_make 94 = .ok (.bipush 103, 2) := by decide +kernel
theorem dX4_make_96 : decode cX4_make 96 = .ok (.iconst 5, 1) := by decide +kernel
theorem dX4_make_97 : decode cX4_make 97 = .ok (.iload_n 1, 1) := by decide +kernel
theorem dX4_make_98 : decode cX4_make 98 = .ok (.imul, 1) := by decide +kernel
theorem dX4_make_99 : decode cX4_make 99 = .ok (.iadd, 1) := by decide +kernel
theorem dX4_make_100 : decode cX4_make 100 = .ok (.iload 6, 2) := by decide +kernel
theorem dX4_make_102 : decode cX4_make 102 = .ok (.iadd, 1) := by decide +kernel
theorem dX4_make_103 : decode cX4_make 103 = .ok (.iconst 0, 1) := by decide +kernel
theorem dX4_make_104 : decode cX4_make 104 = .ok (.iastore, 1) := by decide +kernel
theorem dX4_make_105 : decode cX4_make 105 = .ok (.iinc 6 1, 3) := by decide +kernel
theorem dX4_make_108 : decode cX4_make 108 = .ok (.goto (-24), 3) := by decide +kernel
theorem dX4_make_111 : decode cX4_make 111 = .ok (.return_, 1) := by decide +kernel
theorem dX4_send_0 : decode cX4_send 0 = .ok (.aload_n 0, 1) := by decide +kernel
theorem dX4_send_1 : decode cX4_send 1 = .ok (.iload_n 1, 1) := by decide +kernel
theorem dX4_send_2 : decode cX4_send 2 = .ok (.iload_n 2, 1) := by decide +kernel
theorem dX4_send_3 : decode cX4_send 3 = .ok (.iload_n 3, 1) := by decide +kernel
theorem dX4_send_4 : decode cX4_send 4 = .ok (.iload 4, 2) := by decide +kernel
theorem dX4_send_6 : decode cX4_send 6 = .ok (.invokevirtual 57, 3) := by decide +kernel
theorem dX4_send_9 : decode cX4_send 9 = .ok (.istore 6, 2) := by decide +kernel
theorem dX4_send_11 : decode cX4_send 11 = .ok (.iload 6, 2) := by decide +kernel
theorem dX4_send_13 : decode cX4_send 13 = .ok (.ifCond .ge 30, 3) := by decide +kernel
theorem dX4_send_16 : decode cX4_send 16 = .ok (.aload_n 0, 1) := by decide +kernel
theorem dX4_send_17 : decode cX4_send 17 = .ok (.iload_n 1, 1) := by decide +kernel
theorem dX4_send_18 : decode cX4_send 18 = .ok (.iload_n 2, 1) := by decide +kernel
theorem dX4_send_19 : decode cX4_send 19 = .ok (.invokevirtual 61, 3) := by decide +kernel
theorem dX4_send_22 : decode cX4_send 22 = .ok (.istore 6, 2) := by decide +kernel
theorem dX4_send_24 : decode cX4_send 24 = .ok (.iload 6, 2) := by decide +kernel
theorem dX4_send_26 : decode cX4_send 26 = .ok (.ifCond .ge 6, 3) := by decide +kernel
theorem dX4_send_29 : decode cX4_send 29 = .ok (.bipush (-5), 2) := by decide +kernel
theorem dX4_send_31 : decode cX4_send 31 = .ok (.ireturn, 1) := by decide +kernel
theorem dX4_send_32 : decode cX4_send 32 = .ok (.aload_n 0, 1) := by decide +kernel
theorem dX4_send_33 : decode cX4_send 33 = .ok (.iload 6, 2) := by decide +kernel
theorem dX4_send_35 : decode cX4_send 35 = .ok (.iload_n 1, 1) := by decide +kernel
theorem dX4_send_36 : decode cX4_send 36 = .ok (.iload_n 2, 1) := by decide +kernel
theorem dX4_send_37 : decode cX4_send 37 = .ok (.iload_n 3, 1) := by decide +kernel
theorem dX4_send_38 : decode cX4_send 38 = .ok (.iload 4, 2) := by decide +kernel
theorem dX4_send_40 : decode cX4_send 40 = .ok (.invokevirtual 64, 3) := by decide +kernel
theorem dX4_send_43 : decode cX4_send 43 = .ok (.aload_n 0, 1) := by decide +kernel
theorem dX4_send_44 : decode cX4_send 44 = .ok (.getfield 7, 3) := by decide +kernel
theorem dX4_send_47 : decode cX4_send 47 = .ok (.bipush 103, 2) := by decide +kernel
theorem dX4_send_49 : decode cX4_send 49 = .ok (.iconst 5, 1) := by decide +kernel
theorem dX4_send_50 : decode cX4_send 50 = .ok (.iload 6, 2) := by decide +kernel
theorem dX4_send_52 : decode cX4_send 52 = .ok (.imul, 1) := by decide +kernel
theorem dX4_send_53 : decode cX4_send 53 = .ok (.iadd, 1) := by decide +kernel
theorem dX4_send_54 : decode cX4_send 54 = .ok (.iload_n 3, 1) := by decide +kernel
theorem dX4_send_55 : decode cX4_send 55 = .ok (.iadd, 1) := by decide +kernel
theorem dX4_send_56 : decode cX4_send 56 = .ok (.dup2, 1) := by decide +kernel
theorem dX4_send_57 : decode cX4_send 57 = .ok (.iaload, 1) := by decide +kernel
theorem dX4_send_58 : decode cX4_send 58 = .ok (.iconst 1, 1) := by decide +kernel
theorem dX4_send_59 : decode cX4_send 59 = .ok (.iload 4, 2) := by decide +kernel
theorem dX4_send_61 : decode cX4_send 61 = .ok (.ishl, 1) := by decide +kernel
theorem dX4_send_62 : decode cX4_send 62 = .ok (.ior, 1) := by decide +kernel
theorem dX4_send_63 : decode cX4_send 63 = .ok (.iastore, 1) := by decide +kernel
theorem dX4_send_64 : decode cX4_send 64 = .ok (.aload_n 0, 1) := by decide +kernel
theorem dX4_send_65 : decode cX4_send 65 = .ok (.getfield 7, 3) := by decide +kernel
theorem dX4_send_68 : decode cX4_send 68 = .ok (.bipush 87, 2) := by decide +kernel
theorem dX4_send_70 : decode cX4_send 70 = .ok (.iload 6, 2) := by decide +kernel
theorem dX4_send_72 : decode cX4_send 72 = .ok (.iadd, 1) := by decide +kernel
theorem dX4_send_73 : decode cX4_send 73 = .ok (.aload_n 0, 1) := by decide +kernel
theorem dX4_send_74 : decode cX4_send 74 = .ok (.getfield 7, 3) := by decide +kernel
theorem dX4_send_77 : decode cX4_send 77 = .ok (.bipush 6, 2) := by decide +kernel
theorem dX4_send_79 : decode cX4_send 79 = .ok (.iaload, 1) := by decide +kernel
theorem dX4_send_80 : decode cX4_send 80 = .ok (.iastore, 1) := by decide +kernel
theorem dX4_send_81 : decode cX4_send 81 = .ok (.iload 5, 2) := by decide +kernel
theorem dX4_send_83 : decode cX4_send 83 = .ok (.iconst 2, 1) := by decide +kernel
theorem dX4_send_84 : decode cX4_send 84 = .ok (.if_icmp .ne 17, 3) := by decide +kernel
theorem dX4_send_87 : decode cX4_send 87 = .ok (.aload_n 0, 1) := by decide +kernel
theorem dX4_send_88 : decode cX4_send 88 = .ok (.getfield 7, 3) := by decide +kernel
theorem dX4_send_91 : decode cX4_send 91 = .ok (.bipush 71, 2) := by decide +kernel
theorem dX4_send_93 : decode cX4_send 93 = .ok (.iload 6, 2) := by decide +kernel
theorem dX4_send_95 : decode cX4_send 95 = .ok (.iadd, 1) := by decide +kernel
theorem dX4_send_96 : decode cX4_send 96 = .ok (.iconst 2, 1) := by decide +kernel
theorem dX4_send_97 : decode cX4_send 97 = .ok (.iastore, 1) := by decide +kernel
theorem dX4_send_98 : decode cX4_send 98 = .ok (.goto 34, 3) := by decide +kernel
theorem dX4_send_101 : decode cX4_send 101 = .ok (.iload 5, 2) := by decide +kernel
theorem dX4_send_103 : decode cX4_send 103 = .ok (.iconst 1, 1) := by decide +kernel
theorem dX4_send_104 : decode cX4_send 104 = .ok (.if_icmp .ne 28, 3) := by decide +kernel
theorem dX4_send_107 : decode cX4_send 107 = .ok (.aload_n 0, 1) := by decide +kernel
theorem dX4_send_108 : decode cX4_send 108 = .ok (.getfield 7, 3) := by decide +kernel
theorem dX4_send_111 : decode cX4_send 111 = .ok (.bipush 71, 2) := by decide +kernel
theorem dX4_send_113 : decode cX4_send 113 = .ok (.iload 6, 2) := by decide +kernel
theorem dX4_send_115 : decode cX4_send 115 = .ok (.iadd, 1) := by decide +kernel
theorem dX4_send_116 : decode cX4_send 116 = .ok (.iaload, 1) := by decide +kernel
theorem dX4_send_117 : decode cX4_send 117 = .ok (.iconst 2, 1) := by decide +kernel
theorem dX4_send_118 : decode cX4_send 118 = .ok (.if_icmp .ne 14, 3) := by decide +kernel
theorem dX4_send_121 : decode cX4_send 121 = .ok (.aload_n 0, 1) := by decide +kernel
theorem dX4_send_122 : decode cX4_send 122 = .ok (.getfield 7, 3) := by decide +kernel
theorem dX4_send_125 : decode cX4_send 125 = .ok (.bipush 71, 2) := by decide +kernel
theorem dX4_send_127 : decode cX4_send 127 = .ok (.iload 6, 2) := by decide +kernel
theorem dX4_send_129 : decode cX4_send 129 = .ok (.iadd, 1) := by decide +kernel
theorem dX4_send_130 : decode cX4_send 130 = .ok (.iconst 0, 1) := by decide +kernel
theorem dX4_send_131 : decode cX4_send 131 = .ok (.iastore, 1) := by decide +kernel
theorem dX4_send_132 : decode cX4_send 132 = .ok (.iload 6, 2) := by decide +kernel
theorem dX4_send_134 : decode cX4_send 134 = .ok (.ireturn, 1) := by decide +kernel
theorem dX4_out_0 : decode cX4_out 0 = .ok (.iload_n 1, 1) := by decide +kernel
theorem dX4_out_1 : decode cX4_out 1 = .ok (.invokestatic 68, 3) := by decide +kernel
theorem dX4_out_4 : decode cX4_out 4 = .ok (.ifCond .ne 5, 3) := by decide +kernel
theorem dX4_out_7 : decode cX4_out 7 = .ok (.iconst (-1), 1) := by decide +kernel
theorem dX4_out_8 : decode cX4_out 8 = .ok (.ireturn, 1) := by decide +kernel
theorem dX4_out_9 : decode cX4_out 9 = .ok (.iload_n 2, 1) := by decide +kernel
theorem dX4_out_10 : decode cX4_out 10 = .ok (.invokestatic 71, 3) := by decide +kernel
theorem dX4_out_13 : decode cX4_out 13 = .ok (.ifCond .eq 20, 3) := by decide +kernel
theorem dX4_out_16 : decode cX4_out 16 = .ok (.iload_n 3, 1) := by decide +kernel
theorem dX4_out_17 : decode cX4_out 17 = .ok (.iload 4, 2) := by decide +kernel
theorem dX4_out_19 : decode cX4_out 19 = .ok (.invokestatic 74, 3) := by decide +kernel
theorem dX4_out_22 : decode cX4_out 22 = .ok (.ifCond .eq 11, 3) := by decide +kernel
theorem dX4_out_25 : decode cX4_out 25 = .ok (.iload 5, 2) := by decide +kernel
theorem dX4_out_27 : decode cX4_out 27 = .ok (.invokestatic 77, 3) := by decide +kernel
theorem dX4_out_30 : decode cX4_out 30 = .ok (.ifCond .ne 6, 3) := by decide +kernel
theorem dX4_out_33 : decode cX4_out 33 = .ok (.bipush (-2), 2) := by decide +kernel
theorem dX4_out_35 : decode cX4_out 35 = .ok (.ireturn, 1) := by decide +kernel
theorem dX4_out_36 : decode cX4_out 36 = .ok (.aload_n 0, 1) := by decide +kernel
theorem dX4_out_37 : decode cX4_out 37 = .ok (.iload_n 1, 1) := by decide +kernel
theorem dX4_out_38 : decode cX4_out 38 = .ok (.iload_n 2, 1) := by decide +kernel
theorem dX4_out_39 : decode cX4_out 39 = .ok (.iload_n 3, 1) := by decide +kernel
theorem dX4_out_40 : decode cX4_out 40 = .ok (.iload 4, 2) := by decide +kernel
theorem dX4_out_42 : decode cX4_out 42 = .ok (.iload 5, 2) := by decide +kernel
theorem dX4_out_44 : decode cX4_out 44 = .ok (.invokevirtual 80, 3) := by decide +kernel
theorem dX4_out_47 : decode cX4_out 47 = .ok (.ireturn, 1) := by decide +kernel
theorem dX4_whyNot_0 : decode cX4_whyNot 0 = .ok (.aload_n 0, 1) := by decide +kernel
theorem dX4_whyNot_1 : decode cX4_whyNot 1 = .ok (.iload_n 3, 1) := by decide +kernel
theorem dX4_whyNot_2 : decode cX4_whyNot 2 = .ok (.invokevirtual 24, 3) := by decide +kernel
theorem dX4_whyNot_5 : decode cX4_whyNot 5 = .ok (.ifCond .ne 5, 3) := by decide +kernel
theorem dX4_whyNot_8 : decode cX4_whyNot 8 = .ok (.iconst 1, 1) := by decide +kernel
theorem dX4_whyNot_9 : decode cX4_whyNot 9 = .ok (.ireturn, 1) := by decide +kernel
theorem dX4_whyNot_10 : decode cX4_whyNot 10 = .ok (.aload_n 0, 1) := by decide +kernel
theorem dX4_whyNot_11 : decode cX4_whyNot 11 = .ok (.getfield 7, 3) := by decide +kernel
theorem dX4_whyNot_14 : decode cX4_whyNot 14 = .ok (.bipush 103, 2) := by decide +kernel
theorem dX4_whyNot_16 : decode cX4_whyNot 16 = .ok (.iconst 5, 1) := by decide +kernel
theorem dX4_whyNot_17 : decode cX4_whyNot 17 = .ok (.iload_n 3, 1) := by decide +kernel
theorem dX4_whyNot_18 : decode cX4_whyNot 18 = .ok (.imul, 1) := by decide +kernel
theorem dX4_whyNot_19 : decode cX4_whyNot 19 = .ok (.iadd, 1) := by decide +kernel
theorem dX4_whyNot_20 : decode cX4_whyNot 20 = .ok (.iload_n 1, 1) := by decide +kernel
theorem dX4_whyNot_21 : decode cX4_whyNot 21 = .ok (.iadd, 1) := by decide +kernel
theorem dX4_whyNot_22 : decode cX4_whyNot 22 = .ok (.iaload, 1) := by decide +kernel
theorem dX4_whyNot_23 : decode cX4_whyNot 23 = .ok (.istore 4, 2) := by decide +kernel
theorem dX4_whyNot_25 : decode cX4_whyNot 25 = .ok (.aload_n 0, 1) := by decide +kernel
theorem dX4_whyNot_26 : decode cX4_whyNot 26 = .ok (.getfield 7, 3) := by decide +kernel
theorem dX4_whyNot_29 : decode cX4_whyNot 29 = .ok (.iconst 1, 1) := by decide +kernel
theorem dX4_whyNot_30 : decode cX4_whyNot 30 = .ok (.iaload, 1) := by decide +kernel
theorem dX4_whyNot_31 : decode cX4_whyNot 31 = .ok (.iconst 1, 1) := by decide +kernel
theorem dX4_whyNot_32 : decode cX4_whyNot 32 = .ok (.if_icmp .ne 8, 3) := by decide +kernel
theorem dX4_whyNot_35 : decode cX4_whyNot 35 = .ok (.iload 4, 2) := by decide +kernel
theorem dX4_whyNot_37 : decode cX4_whyNot 37 = .ok (.ifCond .eq 22, 3) := by decide +kernel
theorem dX4_whyNot_40 : decode cX4_whyNot 40 = .ok (.aload_n 0, 1) := by decide +kernel
theorem dX4_whyNot_41 : decode cX4_whyNot 41 = .ok (.getfield 7, 3) := by decide +kernel
theorem dX4_whyNot_44 : decode cX4_whyNot 44 = .ok (.iconst 1, 1) := by decide +kernel
theorem dX4_whyNot_45 : decode cX4_whyNot 45 = .ok (.iaload, 1) := by decide +kernel
theorem dX4_whyNot_46 : decode cX4_whyNot 46 = .ok (.iconst 2, 1) := by decide +kernel
theorem dX4_whyNot_47 : decode cX4_whyNot 47 = .ok (.if_icmp .ne 14, 3) := by decide +kernel
theorem dX4_whyNot_50 : decode cX4_whyNot 50 = .ok (.iload 4, 2) := by decide +kernel
theorem dX4_whyNot_52 : decode cX4_whyNot 52 = .ok (.iload_n 2, 1) := by decide +kernel
theorem dX4_whyNot_53 : decode cX4_whyNot 53 = .ok (.ishr, 1) := by decide +kernel
theorem dX4_whyNot_54 : decode cX4_whyNot 54 = .ok (.iconst 1, 1) := by decide +kernel
theorem dX4_whyNot_55 : decode cX4_whyNot 55 = .ok (.iand, 1) := by decide +kernel
theorem dX4_whyNot_56 : decode cX4_whyNot 56 = .ok (.ifCond .ne 5, 3) := by decide +kernel
theorem dX4_whyNot_59 : decode cX4_whyNot 59 = .ok (.iconst 2, 1) := by decide +kernel
theorem dX4_whyNot_60 : decode cX4_whyNot 60 = .ok (.ireturn, 1) := by decide +kernel
theorem dX4_whyNot_61 : decode cX4_whyNot 61 = .ok (.iconst 0, 1) := by decide +kernel
theorem dX4_whyNot_62 : decode cX4_whyNot 62 = .ok (.ireturn, 1) := by decide +kernel
theorem dX4_insideOf_0 : decode cX4_insideOf 0 = .ok (.bipush 32, 2) := by decide +kernel
theorem dX4_insideOf_2 : decode cX4_insideOf 2 = .ok (.aload_n 0, 1) := by decide +kernel
theorem dX4_insideOf_3 : decode cX4_insideOf 3 = .ok (.getfield 7, 3) := by decide +kernel
theorem dX4_insideOf_6 : decode cX4_insideOf 6 = .ok (.bipush 7, 2) := by decide +kernel
theorem dX4_insideOf_8 : decode cX4_insideOf 8 = .ok (.iload_n 1, 1) := by decide +kernel
theorem dX4_insideOf_9 : decode cX4_insideOf 9 = .ok (.iadd, 1) := by decide +kernel
theorem dX4_insideOf_10 : decode cX4_insideOf 10 = .ok (.iaload, 1) := by decide +kernel
theorem dX4_insideOf_11 : decode cX4_insideOf 11 = .ok (.imul, 1) := by decide +kernel
theorem dX4_insideOf_12 : decode cX4_insideOf 12 = .ok (.aload_n 0, 1) := by decide +kernel
theorem dX4_insideOf_13 : decode cX4_insideOf 13 = .ok (.getfield 7, 3) := by decide +kernel
theorem dX4_insideOf_16 : decode cX4_insideOf 16 = .ok (.bipush 23, 2) := by decide +kernel
theorem dX4_insideOf_18 : decode cX4_insideOf 18 = .ok (.iload_n 1, 1) := by decide +kernel
theorem dX4_insideOf_19 : decode cX4_insideOf 19 = .ok (.iadd, 1) := by decide +kernel
theorem dX4_insideOf_20 : decode cX4_insideOf 20 = .ok (.iaload, 1) := by decide +kernel
theorem dX4_insideOf_21 : decode cX4_insideOf 21 = .ok (.iadd, 1) := by decide +kernel
theorem dX4_insideOf_22 : decode cX4_insideOf 22 = .ok (.ireturn, 1) := by decide +kernel
theorem dX4_receive_0 : decode cX4_receive 0 = .ok (.aload_n 0, 1) := by decide +kernel
theorem dX4_receive_1 : decode cX4_receive 1 = .ok (.iload_n 1, 1) := by decide +kernel
theorem dX4_receive_2 : decode cX4_receive 2 = .ok (.iload_n 2, 1) := by decide +kernel
theorem dX4_receive_3 : decode cX4_receive 3 = .ok (.iload_n 3, 1) := by decide +kernel
theorem dX4_receive_4 : decode cX4_receive 4 = .ok (.invokevirtual 84, 3) := by decide +kernel
theorem dX4_receive_7 : decode cX4_receive 7 = .ok (.ifCond .le 6, 3) := by decide +kernel
theorem dX4_receive_10 : decode cX4_receive 10 = .ok (.bipush (-6), 2) := by decide +kernel
theorem dX4_receive_12 : decode cX4_receive 12 = .ok (.ireturn, 1) := by decide +kernel
theorem dX4_receive_13 : decode cX4_receive 13 = .ok (.aload_n 0, 1) := by decide +kernel
theorem dX4_receive_14 : decode cX4_receive 14 = .ok (.getfield 7, 3) := by decide +kernel
theorem dX4_receive_17 : decode cX4_receive 17 = .ok (.bipush 87, 2) := by decide +kernel
theorem dX4_receive_19 : decode cX4_receive 19 = .ok (.iload_n 3, 1) := by decide +kernel
theorem dX4_receive_20 : decode cX4_receive 20 = .ok (.iadd, 1) := by decide +kernel
theorem dX4_receive_21 : decode cX4_receive 21 = .ok (.aload_n 0, 1) := by decide +kernel
theorem dX4_receive_22 : decode cX4_receive 22 = .ok (.getfield 7, 3) := by decide +kernel
theorem dX4_receive_25 : decode cX4_receive 25 = .ok (.bipush 6, 2) := by decide +kernel
theorem dX4_receive_27 : decode cX4_receive 27 = .ok (.iaload, 1) := by decide +kernel
theorem dX4_receive_28 : decode cX4_receive 28 = .ok (.iastore, 1) := by decide +kernel
theorem dX4_receive_29 : decode cX4_receive 29 = .ok (.iload 4, 2) := by decide +kernel
theorem dX4_receive_31 : decode cX4_receive 31 = .ok (.iconst 2, 1) := by decide +kernel
theorem dX4_receive_32 : decode cX4_receive 32 = .ok (.if_icmp .ne 16, 3) := by decide +kernel
theorem dX4_receive_35 : decode cX4_receive 35 = .ok (.aload_n 0, 1) := by decide +kernel
theorem dX4_receive_36 : decode cX4_receive 36 = .ok (.getfield 7, 3) := by decide +kernel
theorem dX4_receive_39 : decode cX4_receive 39 = .ok (.bipush 71, 2) := by decide +kernel
theorem dX4_receive_41 : decode cX4_receive 41 = .ok (.iload_n 3, 1) := by decide +kernel
theorem dX4_receive_42 : decode cX4_receive 42 = .ok (.iadd, 1) := by decide +kernel
theorem dX4_receive_43 : decode cX4_receive 43 = .ok (.iconst 2, 1) := by decide +kernel
theorem dX4_receive_44 : decode cX4_receive 44 = .ok (.iastore, 1) := by decide +kernel
theorem dX4_receive_45 : decode cX4_receive 45 = .ok (.goto 25, 3) := by decide +kernel
theorem dX4_receive_48 : decode cX4_receive 48 = .ok (.aload_n 0, 1) := by decide +kernel
theorem dX4_receive_49 : decode cX4_receive 49 = .ok (.getfield 7, 3) := by decide +kernel
theorem dX4_receive_52 : decode cX4_receive 52 = .ok (.bipush 71, 2) := by decide +kernel
theorem dX4_receive_54 : decode cX4_receive 54 = .ok (.iload_n 3, 1) := by decide +kernel
theorem dX4_receive_55 : decode cX4_receive 55 = .ok (.iadd, 1) := by decide +kernel
theorem dX4_receive_56 : decode cX4_receive 56 = .ok (.iaload, 1) := by decide +kernel
theorem dX4_receive_57 : decode cX4_receive 57 = .ok (.ifCond .ne 13, 3) := by decide +kernel
theorem dX4_receive_60 : decode cX4_receive 60 = .ok (.aload_n 0, 1) := by decide +kernel
theorem dX4_receive_61 : decode cX4_receive 61 = .ok (.getfield 7, 3) := by decide +kernel
theorem dX4_receive_64 : decode cX4_receive 64 = .ok (.bipush 71, 2) := by decide +kernel
theorem dX4_receive_66 : decode cX4_receive 66 = .ok (.iload_n 3, 1) := by decide +kernel
theorem dX4_receive_67 : decode cX4_receive 67 = .ok (.iadd, 1) := by decide +kernel
theorem dX4_receive_68 : decode cX4_receive 68 = .ok (.iconst 1, 1) := by decide +kernel
theorem dX4_receive_69 : decode cX4_receive 69 = .ok (.iastore, 1) := by decide +kernel
theorem dX4_receive_70 : decode cX4_receive 70 = .ok (.aload_n 0, 1) := by decide +kernel
theorem dX4_receive_71 : decode cX4_receive 71 = .ok (.iload_n 3, 1) := by decide +kernel
theorem dX4_receive_72 : decode cX4_receive 72 = .ok (.invokevirtual 88, 3) := by decide +kernel
theorem dX4_receive_75 : decode cX4_receive 75 = .ok (.ireturn, 1) := by decide +kernel
theorem dX4_in_0 : decode cX4_in 0 = .ok (.iload_n 1, 1) := by decide +kernel
theorem dX4_in_1 : decode cX4_in 1 = .ok (.iload_n 2, 1) := by decide +kernel
theorem dX4_in_2 : decode cX4_in 2 = .ok (.invokestatic 74, 3) := by decide +kernel
theorem dX4_in_5 : decode cX4_in 5 = .ok (.ifCond .ne 6, 3) := by decide +kernel
theorem dX4_in_8 : decode cX4_in 8 = .ok (.bipush (-2), 2) := by decide +kernel
theorem dX4_in_10 : decode cX4_in 10 = .ok (.ireturn, 1) := by decide +kernel
theorem dX4_in_11 : decode cX4_in 11 = .ok (.iload_n 3, 1) := by decide +kernel
theorem dX4_in_12 : decode cX4_in 12 = .ok (.invokestatic 91, 3) := by decide +kernel
theorem dX4_in_15 : decode cX4_in 15 = .ok (.ifCond .ne 5, 3) := by decide +kernel
theorem dX4_in_18 : decode cX4_in 18 = .ok (.iconst (-1), 1) := by decide +kernel
theorem dX4_in_19 : decode cX4_in 19 = .ok (.ireturn, 1) := by decide +kernel
theorem dX4_in_20 : decode cX4_in 20 = .ok (.iload 4, 2) := by decide +kernel
theorem dX4_in_22 : decode cX4_in 22 = .ok (.invokestatic 77, 3) := by decide +kernel
theorem dX4_in_25 : decode cX4_in 25 = .ok (.ifCond .ne 6, 3) := by decide +kernel
theorem dX4_in_28 : decode cX4_in 28 = .ok (.bipush (-2), 2) := by decide +kernel
theorem dX4_in_30 : decode cX4_in 30 = .ok (.ireturn, 1) := by decide +kernel
theorem dX4_in_31 : decode cX4_in 31 = .ok (.aload_n 0, 1) := by decide +kernel
theorem dX4_in_32 : decode cX4_in 32 = .ok (.iload_n 1, 1) := by decide +kernel
theorem dX4_in_33 : decode cX4_in 33 = .ok (.iload_n 2, 1) := by decide +kernel
theorem dX4_in_34 : decode cX4_in 34 = .ok (.iload_n 3, 1) := by decide +kernel
theorem dX4_in_35 : decode cX4_in 35 = .ok (.iload 4, 2) := by decide +kernel
theorem dX4_in_37 : decode cX4_in 37 = .ok (.invokevirtual 94, 3) := by decide +kernel
theorem dX4_in_40 : decode cX4_in 40 = .ok (.ireturn, 1) := by decide +kernel
theorem dX4_turn_0 : decode cX4_turn 0 = .ok (.iload_n 1, 1) := by decide +kernel
theorem dX4_turn_1 : decode cX4_turn 1 = .ok (.invokestatic 68, 3) := by decide +kernel
theorem dX4_turn_4 : decode cX4_turn 4 = .ok (.ifCond .ne 5, 3) := by decide +kernel
theorem dX4_turn_7 : decode cX4_turn 7 = .ok (.iconst (-1), 1) := by decide +kernel
theorem dX4_turn_8 : decode cX4_turn 8 = .ok (.ireturn, 1) := by decide +kernel
theorem dX4_turn_9 : decode cX4_turn 9 = .ok (.iload_n 2, 1) := by decide +kernel
theorem dX4_turn_10 : decode cX4_turn 10 = .ok (.invokestatic 71, 3) := by decide +kernel
theorem dX4_turn_13 : decode cX4_turn 13 = .ok (.ifCond .ne 6, 3) := by decide +kernel
theorem dX4_turn_16 : decode cX4_turn 16 = .ok (.bipush (-2), 2) := by decide +kernel
theorem dX4_turn_18 : decode cX4_turn 18 = .ok (.ireturn, 1) := by decide +kernel
theorem dX4_turn_19 : decode cX4_turn 19 = .ok (.iload_n 3, 1) := by decide +kernel
theorem dX4_turn_20 : decode cX4_turn 20 = .ok (.invokestatic 91, 3) := by decide +kernel
theorem dX4_turn_23 : decode cX4_turn 23 = .ok (.ifCond .ne 5, 3) := by decide +kernel
theorem dX4_turn_26 : decode cX4_turn 26 = .ok (.iconst (-1), 1) := by decide +kernel
theorem dX4_turn_27 : decode cX4_turn 27 = .ok (.ireturn, 1) := by decide +kernel
theorem dX4_turn_28 : decode cX4_turn 28 = .ok (.iload 4, 2) := by decide +kernel
theorem dX4_turn_30 : decode cX4_turn 30 = .ok (.invokestatic 77, 3) := by decide +kernel
theorem dX4_turn_33 : decode cX4_turn 33 = .ok (.ifCond .ne 6, 3) := by decide +kernel
theorem dX4_turn_36 : decode cX4_turn 36 = .ok (.bipush (-2), 2) := by decide +kernel
theorem dX4_turn_38 : decode cX4_turn 38 = .ok (.ireturn, 1) := by decide +kernel
theorem dX4_turn_39 : decode cX4_turn 39 = .ok (.aload_n 0, 1) := by decide +kernel
theorem dX4_turn_40 : decode cX4_turn 40 = .ok (.iload_n 1, 1) := by decide +kernel
theorem dX4_turn_41 : decode cX4_turn 41 = .ok (.iload_n 2, 1) := by decide +kernel
theorem dX4_turn_42 : decode cX4_turn 42 = .ok (.iconst 4, 1) := by decide +kernel
theorem dX4_turn_43 : decode cX4_turn 43 = .ok (.iload_n 3, 1) := by decide +kernel
theorem dX4_turn_44 : decode cX4_turn 44 = .ok (.iload 4, 2) := by decide +kernel
theorem dX4_turn_46 : decode cX4_turn 46 = .ok (.invokevirtual 80, 3) := by decide +kernel
theorem dX4_turn_49 : decode cX4_turn 49 = .ok (.istore 5, 2) := by decide +kernel
theorem dX4_turn_51 : decode cX4_turn 51 = .ok (.iload 5, 2) := by decide +kernel
theorem dX4_turn_53 : decode cX4_turn 53 = .ok (.ifCond .ge 8, 3) := by decide +kernel
theorem dX4_turn_56 : decode cX4_turn 56 = .ok (.iload 5, 2) := by decide +kernel
theorem dX4_turn_58 : decode cX4_turn 58 = .ok (.goto 13, 3) := by decide +kernel
theorem dX4_turn_61 : decode cX4_turn 61 = .ok (.aload_n 0, 1) := by decide +kernel
theorem dX4_turn_62 : decode cX4_turn 62 = .ok (.iconst 4, 1) := by decide +kernel
theorem dX4_turn_63 : decode cX4_turn 63 = .ok (.iload 5, 2) := by decide +kernel
theorem dX4_turn_65 : decode cX4_turn 65 = .ok (.iload_n 3, 1) := by decide +kernel
theorem dX4_turn_66 : decode cX4_turn 66 = .ok (.iload 4, 2) := by decide +kernel
theorem dX4_turn_68 : decode cX4_turn 68 = .ok (.invokevirtual 94, 3) := by decide +kernel
theorem dX4_turn_71 : decode cX4_turn 71 = .ok (.ireturn, 1) := by decide +kernel
theorem dX4_isKnown_0 : decode cX4_isKnown 0 = .ok (.aload_n 0, 1) := by decide +kernel
theorem dX4_isKnown_1 : decode cX4_isKnown 1 = .ok (.getfield 7, 3) := by decide +kernel
theorem dX4_isKnown_4 : decode cX4_isKnown 4 = .ok (.sipush 183, 3) := by decide +kernel
theorem dX4_isKnown_7 : decode cX4_isKnown 7 = .ok (.iload_n 1, 1) := by decide +kernel
theorem dX4_isKnown_8 : decode cX4_isKnown 8 = .ok (.iadd, 1) := by decide +kernel
theorem dX4_isKnown_9 : decode cX4_isKnown 9 = .ok (.iaload, 1) := by decide +kernel
theorem dX4_isKnown_10 : decode cX4_isKnown 10 = .ok (.aload_n 0, 1) := by decide +kernel
theorem dX4_isKnown_11 : decode cX4_isKnown 11 = .ok (.getfield 7, 3) := by decide +kernel
theorem dX4_isKnown_14 : decode cX4_isKnown 14 = .ok (.bipush 6, 2) := by decide +kernel
theorem dX4_isKnown_16 : decode cX4_isKnown 16 = .ok (.iaload, 1) := by decide +kernel
theorem dX4_isKnown_17 : decode cX4_isKnown 17 = .ok (.if_icmp .le 7, 3) := by decide +kernel
theorem dX4_isKnown_20 : decode cX4_isKnown 20 = .ok (.iconst 1, 1) := by decide +kernel
theorem dX4_isKnown_21 : decode cX4_isKnown 21 = .ok (.goto 4, 3) := by decide +kernel
theorem dX4_isKnown_24 : decode cX4_isKnown 24 = .ok (.iconst 0, 1) := by decide +kernel
theorem dX4_isKnown_25 : decode cX4_isKnown 25 = .ok (.ireturn, 1) := by decide +kernel
theorem dX4_isHeld_0 : decode cX4_isHeld 0 = .ok (.aload_n 0, 1) := by decide +kernel
theorem dX4_isHeld_1 : decode cX4_isHeld 1 = .ok (.getfield 7, 3) := by decide +kernel
theorem dX4_isHeld_4 : decode cX4_isHeld 4 = .ok (.sipush 247, 3) := by decide +kernel
theorem dX4_isHeld_7 : decode cX4_isHeld 7 = .ok (.bipush 8, 2) := by decide +kernel
theorem dX4_isHeld_9 : decode cX4_isHeld 9 = .ok (.iload_n 1, 1) := by decide +kernel
theorem dX4_isHeld_10 : decode cX4_isHeld 10 = .ok (.imul, 1) := by decide +kernel
theorem dX4_isHeld_11 : decode cX4_isHeld 11 = .ok (.iadd, 1) := by decide +kernel
theorem dX4_isHeld_12 : decode cX4_isHeld 12 = .ok (.iload_n 2, 1) := by decide +kernel
theorem dX4_isHeld_13 : decode cX4_isHeld 13 = .ok (.iadd, 1) := by decide +kernel
theorem dX4_isHeld_14 : decode cX4_isHeld 14 = .ok (.iaload, 1) := by decide +kernel
theorem dX4_isHeld_15 : decode cX4_isHeld 15 = .ok (.aload_n 0, 1) := by decide +kernel
theorem dX4_isHeld_16 : decode cX4_isHeld 16 = .ok (.getfield 7, 3) := by decide +kernel
theorem dX4_isHeld_19 : decode cX4_isHeld 19 = .ok (.bipush 6, 2) := by decide +kernel
theorem dX4_isHeld_21 : decode cX4_isHeld 21 = .ok (.iaload, 1) := by decide +kernel
theorem dX4_isHeld_22 : decode cX4_isHeld 22 = .ok (.if_icmp .le 7, 3) := by decide +kernel
theorem dX4_isHeld_25 : decode cX4_isHeld 25 = .ok (.iconst 1, 1) := by decide +kernel
theorem dX4_isHeld_26 : decode cX4_isHeld 26 = .ok (.goto 4, 3) := by decide +kernel
theorem dX4_isHeld_29 : decode cX4_isHeld 29 = .ok (.iconst 0, 1) := by decide +kernel
theorem dX4_isHeld_30 : decode cX4_isHeld 30 = .ok (.ireturn, 1) := by decide +kernel
theorem dX4_heldMany_0 : decode cX4_heldMany 0 = .ok (.iconst 0, 1) := by decide +kernel
theorem dX4_heldMany_1 : decode cX4_heldMany 1 = .ok (.istore_n 1, 1) := by decide +kernel
theorem dX4_heldMany_2 : decode cX4_heldMany 2 = .ok (.iconst 0, 1) := by decide +kernel
theorem dX4_heldMany_3 : decode cX4_heldMany 3 = .ok (.istore_n 2, 1) := by decide +kernel
theorem dX4_heldMany_4 : decode cX4_heldMany 4 = .ok (.iload_n 2, 1) := by decide +kernel
theorem dX4_heldMany_5 : decode cX4_heldMany 5 = .ok (.sipush 256, 3) := by decide +kernel
theorem dX4_heldMany_8 : decode cX4_heldMany 8 = .ok (.if_icmp .ge 37, 3) := by decide +kernel
theorem dX4_heldMany_11 : decode cX4_heldMany 11 = .ok (.iload_n 1, 1) := by decide +kernel
theorem dX4_heldMany_12 : decode cX4_heldMany 12 = .ok (.aload_n 0, 1) := by decide +kernel
theorem dX4_heldMany_13 : decode cX4_heldMany 13 = .ok (.getfield 7, 3) := by decide +kernel
theorem dX4_heldMany_16 : decode cX4_heldMany 16 = .ok (.sipush 247, 3) := by decide +kernel
theorem dX4_heldMany_19 : decode cX4_heldMany 19 = .ok (.iload_n 2, 1) := by decide +kernel
theorem dX4_heldMany_20 : decode cX4_heldMany 20 = .ok (.iadd, 1) := by decide +kernel
theorem dX4_heldMany_21 : decode cX4_heldMany 21 = .ok (.iaload, 1) := by decide +kernel
theorem dX4_heldMany_22 : decode cX4_heldMany 22 = .ok (.aload_n 0, 1) := by decide +kernel
theorem dX4_heldMany_23 : decode cX4_heldMany 23 = .ok (.getfield 7, 3) := by decide +kernel
theorem dX4_heldMany_26 : decode cX4_heldMany 26 = .ok (.bipush 6, 2) := by decide +kernel
theorem dX4_heldMany_28 : decode cX4_heldMany 28 = .ok (.iaload, 1) := by decide +kernel
theorem dX4_heldMany_29 : decode cX4_heldMany 29 = .ok (.if_icmp .le 7, 3) := by decide +kernel
theorem dX4_heldMany_32 : decode cX4_heldMany 32 = .ok (.iconst 1, 1) := by decide +kernel
theorem dX4_heldMany_33 : decode cX4_heldMany 33 = .ok (.goto 4, 3) := by decide +kernel
theorem dX4_heldMany_36 : decode cX4_heldMany 36 = .ok (.iconst 0, 1) := by decide +kernel
theorem dX4_heldMany_37 : decode cX4_heldMany 37 = .ok (.iadd, 1) := by decide +kernel
theorem dX4_heldMany_38 : decode cX4_heldMany 38 = .ok (.istore_n 1, 1) := by decide +kernel
theorem dX4_heldMany_39 : decode cX4_heldMany 39 = .ok (.iinc 2 1, 3) := by decide +kernel
theorem dX4_heldMany_42 : decode cX4_heldMany 42 = .ok (.goto (-38), 3) := by decide +kernel
theorem dX4_heldMany_45 : decode cX4_heldMany 45 = .ok (.iload_n 1, 1) := by decide +kernel
theorem dX4_heldMany_46 : decode cX4_heldMany 46 = .ok (.ireturn, 1) := by decide +kernel
theorem dX4_letGo_0 : decode cX4_letGo 0 = .ok (.iconst 0, 1) := by decide +kernel
theorem dX4_letGo_1 : decode cX4_letGo 1 = .ok (.istore_n 2, 1) := by decide +kernel
theorem dX4_letGo_2 : decode cX4_letGo 2 = .ok (.iconst 0, 1) := by decide +kernel
theorem dX4_letGo_3 : decode cX4_letGo 3 = .ok (.istore_n 3, 1) := by decide +kernel
theorem dX4_letGo_4 : decode cX4_letGo 4 = .ok (.iload_n 3, 1) := by decide +kernel
theorem dX4_letGo_5 : decode cX4_letGo 5 = .ok (.bipush 8, 2) := by decide +kernel
theorem dX4_letGo_7 : decode cX4_letGo 7 = .ok (.if_icmp .ge 42, 3) := by decide +kernel
theorem dX4_letGo_10 : decode cX4_letGo 10 = .ok (.iload_n 2, 1) := by decide +kernel
theorem dX4_letGo_11 : decode cX4_letGo 11 = .ok (.aload_n 0, 1) := by decide +kernel
theorem dX4_letGo_12 : decode cX4_letGo 12 = .ok (.iload_n 1, 1) := by decide +kernel
theorem dX4_letGo_13 : decode cX4_letGo 13 = .ok (.iload_n 3, 1) := by decide +kernel
theorem dX4_letGo_14 : decode cX4_letGo 14 = .ok (.invokevirtual 97, 3) := by decide +kernel
theorem dX4_letGo_17 : decode cX4_letGo 17 = .ok (.ifCond .eq 7, 3) := by decide +kernel
theorem dX4_letGo_20 : decode cX4_letGo 20 = .ok (.iconst 1, 1) := by decide +kernel
theorem dX4_letGo_21 : decode cX4_letGo 21 = .ok (.goto 4, 3) := by decide +kernel
theorem dX4_letGo_24 : decode cX4_letGo 24 = .ok (.iconst 0, 1) := by decide +kernel
theorem dX4_letGo_25 : decode cX4_letGo 25 = .ok (.iadd, 1) := by decide +kernel
theorem dX4_letGo_26 : decode cX4_letGo 26 = .ok (.istore_n 2, 1) := by decide +kernel
theorem dX4_letGo_27 : decode cX4_letGo 27 = .ok (.aload_n 0, 1) := by decide +kernel
theorem dX4_letGo_28 : decode cX4_letGo 28 = .ok (.getfield 7, 3) := by decide +kernel
theorem dX4_letGo_31 : decode cX4_letGo 31 = .ok (.sipush 247, 3) := by decide +kernel
theorem dX4_letGo_34 : decode cX4_letGo 34 = .ok (.bipush 8, 2) := by decide +kernel
theorem dX4_letGo_36 : decode cX4_letGo 36 = .ok (.iload_n 1, 1) := by decide +kernel
theorem dX4_letGo_37 : decode cX4_letGo 37 = .ok (.imul, 1) := by decide +kernel
theorem dX4_letGo_38 : decode cX4_letGo 38 = .ok (.iadd, 1) := by decide +kernel
theorem dX4_letGo_39 : decode cX4_letGo 39 = .ok (.iload_n 3, 1) := by decide +kernel
theorem dX4_letGo_40 : decode cX4_letGo 40 = .ok (.iadd, 1) := by decide +kernel
theorem dX4_letGo_41 : decode cX4_letGo 41 = .ok (.iconst 0, 1) := by decide +kernel
theorem dX4_letGo_42 : decode cX4_letGo 42 = .ok (.iastore, 1) := by decide +kernel
theorem dX4_letGo_43 : decode cX4_letGo 43 = .ok (.iinc 3 1, 3) := by decide +kernel
theorem dX4_letGo_46 : decode cX4_letGo 46 = .ok (.goto (-42), 3) := by decide +kernel
theorem dX4_letGo_49 : decode cX4_letGo 49 = .ok (.iload_n 2, 1) := by decide +kernel
theorem dX4_letGo_50 : decode cX4_letGo 50 = .ok (.ireturn, 1) := by decide +kernel
theorem dX4_first_0 : decode cX4_first 0 = .ok (.aload_n 0, 1) := by decide +kernel
theorem dX4_first_1 : decode cX4_first 1 = .ok (.iload_n 2, 1) := by decide +kernel
theorem dX4_first_2 : decode cX4_first 2 = .ok (.invokevirtual 100, 3) := by decide +kernel
theorem dX4_first_5 : decode cX4_first 5 = .ok (.istore 5, 2) := by decide +kernel
theorem dX4_first_7 : decode cX4_first 7 = .ok (.aload_n 0, 1) := by decide +kernel
theorem dX4_first_8 : decode cX4_first 8 = .ok (.iload_n 1, 1) := by decide +kernel
theorem dX4_first_9 : decode cX4_first 9 = .ok (.iload_n 3, 1) := by decide +kernel
theorem dX4_first_10 : decode cX4_first 10 = .ok (.iload 4, 2) := by decide +kernel
theorem dX4_first_12 : decode cX4_first 12 = .ok (.iconst 0, 1) := by decide +kernel
theorem dX4_first_13 : decode cX4_first 13 = .ok (.invokevirtual 94, 3) := by decide +kernel
theorem dX4_first_16 : decode cX4_first 16 = .ok (.ifCond .ge 17, 3) := by decide +kernel
theorem dX4_first_19 : decode cX4_first 19 = .ok (.aload_n 0, 1) := by decide +kernel
theorem dX4_first_20 : decode cX4_first 20 = .ok (.getfield 7, 3) := by decide +kernel
theorem dX4_first_23 : decode cX4_first 23 = .ok (.sipush 183, 3) := by decide +kernel
theorem dX4_first_26 : decode cX4_first 26 = .ok (.iload_n 2, 1) := by decide +kernel
theorem dX4_first_27 : decode cX4_first 27 = .ok (.iadd, 1) := by decide +kernel
theorem dX4_first_28 : decode cX4_first 28 = .ok (.iconst 0, 1) := by decide +kernel
theorem dX4_first_29 : decode cX4_first 29 = .ok (.iastore, 1) := by decide +kernel
theorem dX4_first_30 : decode cX4_first 30 = .ok (.bipush (-6), 2) := by decide +kernel
theorem dX4_first_32 : decode cX4_first 32 = .ok (.ireturn, 1) := by decide +kernel
theorem dX4_first_33 : decode cX4_first 33 = .ok (.aload_n 0, 1) := by decide +kernel
theorem dX4_first_34 : decode cX4_first 34 = .ok (.getfield 7, 3) := by decide +kernel
theorem dX4_first_37 : decode cX4_first 37 = .ok (.sipush 183, 3) := by decide +kernel
theorem dX4_first_40 : decode cX4_first 40 = .ok (.iload_n 2, 1) := by decide +kernel
theorem dX4_first_41 : decode cX4_first 41 = .ok (.iadd, 1) := by decide +kernel
theorem dX4_first_42 : decode cX4_first 42 = .ok (.aload_n 0, 1) := by decide +kernel
theorem dX4_first_43 : decode cX4_first 43 = .ok (.getfield 7, 3) := by decide +kernel
theorem dX4_first_46 : decode cX4_first 46 = .ok (.bipush 6, 2) := by decide +kernel
theorem dX4_first_48 : decode cX4_first 48 = .ok (.iaload, 1) := by decide +kernel
theorem dX4_first_49 : decode cX4_first 49 = .ok (.iconst 5, 1) := by decide +kernel
theorem dX4_first_50 : decode cX4_first 50 = .ok (.iadd, 1) := by decide +kernel
theorem dX4_first_51 : decode cX4_first 51 = .ok (.iastore, 1) := by decide +kernel
theorem dX4_first_52 : decode cX4_first 52 = .ok (.aload_n 0, 1) := by decide +kernel
theorem dX4_first_53 : decode cX4_first 53 = .ok (.getfield 7, 3) := by decide +kernel
theorem dX4_first_56 : decode cX4_first 56 = .ok (.sipush 215, 3) := by decide +kernel
theorem dX4_first_59 : decode cX4_first 59 = .ok (.iload_n 2, 1) := by decide +kernel
theorem dX4_first_60 : decode cX4_first 60 = .ok (.iadd, 1) := by decide +kernel
theorem dX4_first_61 : decode cX4_first 61 = .ok (.iload 4, 2) := by decide +kernel
theorem dX4_first_63 : decode cX4_first 63 = .ok (.iastore, 1) := by decide +kernel
theorem dX4_first_64 : decode cX4_first 64 = .ok (.iload 5, 2) := by decide +kernel
theorem dX4_first_66 : decode cX4_first 66 = .ok (.iconst 1, 1) := by decide +kernel
theorem dX4_first_67 : decode cX4_first 67 = .ok (.iadd, 1) := by decide +kernel
theorem dX4_first_68 : decode cX4_first 68 = .ok (.ireturn, 1) := by decide +kernel
theorem dX4_hold_0 : decode cX4_hold 0 = .ok (.aload_n 0, 1) := by decide +kernel
theorem dX4_hold_1 : decode cX4_hold 1 = .ok (.iload_n 1, 1) := by decide +kernel
theorem dX4_hold_2 : decode cX4_hold 2 = .ok (.iload_n 2, 1) := by decide +kernel
theorem dX4_hold_3 : decode cX4_hold 3 = .ok (.invokevirtual 97, 3) := by decide +kernel
theorem dX4_hold_6 : decode cX4_hold 6 = .ok (.ifCond .eq 5, 3) := by decide +kernel
theorem dX4_hold_9 : decode cX4_hold 9 = .ok (.iconst 0, 1) := by decide +kernel
theorem dX4_hold_10 : decode cX4_hold 10 = .ok (.ireturn, 1) := by decide +kernel
theorem dX4_hold_11 : decode cX4_hold 11 = .ok (.aload_n 0, 1) := by decide +kernel
theorem dX4_hold_12 : decode cX4_hold 12 = .ok (.invokevirtual 103, 3) := by decide +kernel
theorem dX4_hold_15 : decode cX4_hold 15 = .ok (.bipush 6, 2) := by decide +kernel
theorem dX4_hold_17 : decode cX4_hold 17 = .ok (.if_icmp .ne 6, 3) := by decide +kernel
theorem dX4_hold_20 : decode cX4_hold 20 = .ok (.bipush (-4), 2) := by decide +kernel
theorem dX4_hold_22 : decode cX4_hold 22 = .ok (.ireturn, 1) := by decide +kernel
theorem dX4_hold_23 : decode cX4_hold 23 = .ok (.aload_n 0, 1) := by decide +kernel
theorem dX4_hold_24 : decode cX4_hold 24 = .ok (.getfield 7, 3) := by decide +kernel
theorem dX4_hold_27 : decode cX4_hold 27 = .ok (.sipush 247, 3) := by decide +kernel
theorem dX4_hold_30 : decode cX4_hold 30 = .ok (.bipush 8, 2) := by decide +kernel
theorem dX4_hold_32 : decode cX4_hold 32 = .ok (.iload_n 1, 1) := by decide +kernel
theorem dX4_hold_33 : decode cX4_hold 33 = .ok (.imul, 1) := by decide +kernel
theorem dX4_hold_34 : decode cX4_hold 34 = .ok (.iadd, 1) := by decide +kernel
theorem dX4_hold_35 : decode cX4_hold 35 = .ok (.iload_n 2, 1) := by decide +kernel
theorem dX4_hold_36 : decode cX4_hold 36 = .ok (.iadd, 1) := by decide +kernel
theorem dX4_hold_37 : decode cX4_hold 37 = .ok (.aload_n 0, 1) := by decide +kernel
theorem dX4_hold_38 : decode cX4_hold 38 = .ok (.getfield 7, 3) := by decide +kernel
theorem dX4_hold_41 : decode cX4_hold 41 = .ok (.bipush 6, 2) := by decide +kernel
theorem dX4_hold_43 : decode cX4_hold 43 = .ok (.iaload, 1) := by decide +kernel
theorem dX4_hold_44 : decode cX4_hold 44 = .ok (.iconst 5, 1) := by decide +kernel
theorem dX4_hold_45 : decode cX4_hold 45 = .ok (.iadd, 1) := by decide +kernel
theorem dX4_hold_46 : decode cX4_hold 46 = .ok (.iastore, 1) := by decide +kernel
theorem dX4_hold_47 : decode cX4_hold 47 = .ok (.iconst 0, 1) := by decide +kernel
theorem dX4_hold_48 : decode cX4_hold 48 = .ok (.ireturn, 1) := by decide +kernel
theorem dX4_part_0 : decode cX4_part 0 = .ok (.iload_n 1, 1) := by decide +kernel
theorem dX4_part_1 : decode cX4_part 1 = .ok (.iconst 0, 1) := by decide +kernel
theorem dX4_part_2 : decode cX4_part 2 = .ok (.iconst 3, 1) := by decide +kernel
theorem dX4_part_3 : decode cX4_part 3 = .ok (.invokestatic 20, 3) := by decide +kernel
theorem dX4_part_6 : decode cX4_part 6 = .ok (.ifCond .eq 23, 3) := by decide +kernel
theorem dX4_part_9 : decode cX4_part 9 = .ok (.iload_n 2, 1) := by decide +kernel
theorem dX4_part_10 : decode cX4_part 10 = .ok (.iconst 0, 1) := by decide +kernel
theorem dX4_part_11 : decode cX4_part 11 = .ok (.bipush 7, 2) := by decide +kernel
theorem dX4_part_13 : decode cX4_part 13 = .ok (.invokestatic 20, 3) := by decide +kernel
theorem dX4_part_16 : decode cX4_part 16 = .ok (.ifCond .eq 13, 3) := by decide +kernel
theorem dX4_part_19 : decode cX4_part 19 = .ok (.iload_n 3, 1) := by decide +kernel
theorem dX4_part_20 : decode cX4_part 20 = .ok (.iconst 0, 1) := by decide +kernel
theorem dX4_part_21 : decode cX4_part 21 = .ok (.bipush 7, 2) := by decide +kernel
theorem dX4_part_23 : decode cX4_part 23 = .ok (.invokestatic 20, 3) := by decide +kernel
theorem dX4_part_26 : decode cX4_part 26 = .ok (.ifCond .ne 6, 3) := by decide +kernel
theorem dX4_part_29 : decode cX4_part 29 = .ok (.bipush (-2), 2) := by decide +kernel
theorem dX4_part_31 : decode cX4_part 31 = .ok (.ireturn, 1) := by decide +kernel
theorem dX4_part_32 : decode cX4_part 32 = .ok (.bipush 8, 2) := by decide +kernel
theorem dX4_part_34 : decode cX4_part 34 = .ok (.iload_n 1, 1) := by decide +kernel
theorem dX4_part_35 : decode cX4_part 35 = .ok (.imul, 1) := by decide +kernel
theorem dX4_part_36 : decode cX4_part 36 = .ok (.iload_n 2, 1) := by decide +kernel
theorem dX4_part_37 : decode cX4_part 37 = .ok (.iadd, 1) := by decide +kernel
theorem dX4_part_38 : decode cX4_part 38 = .ok (.istore 6, 2) := by decide +kernel
theorem dX4_part_40 : decode cX4_part 40 = .ok (.iload_n 3, 1) := by decide +kernel
theorem dX4_part_41 : decode cX4_part 41 = .ok (.ifCond .le 24, 3) := by decide +kernel
theorem dX4_part_44 : decode cX4_part 44 = .ok (.aload_n 0, 1) := by decide +kernel
theorem dX4_part_45 : decode cX4_part 45 = .ok (.iload 6, 2) := by decide +kernel
theorem dX4_part_47 : decode cX4_part 47 = .ok (.invokevirtual 106, 3) := by decide +kernel
theorem dX4_part_50 : decode cX4_part 50 = .ok (.ifCond .eq 7, 3) := by decide +kernel
theorem dX4_part_53 : decode cX4_part 53 = .ok (.iconst 1, 1) := by decide +kernel
theorem dX4_part_54 : decode cX4_part 54 = .ok (.goto 10, 3) := by decide +kernel
theorem dX4_part_57 : decode cX4_part 57 = .ok (.aload_n 0, 1) := by decide +kernel
theorem dX4_part_58 : decode cX4_part 58 = .ok (.iload 6, 2) := by decide +kernel
theorem dX4_part_60 : decode cX4_part 60 = .ok (.iload_n 3, 1) := by decide +kernel
theorem dX4_part_61 : decode cX4_part 61 = .ok (.invokevirtual 109, 3) := by decide +kernel
theorem dX4_part_64 : decode cX4_part 64 = .ok (.ireturn, 1) := by decide +kernel
theorem dX4_part_65 : decode cX4_part 65 = .ok (.iload 4, 2) := by decide +kernel
theorem dX4_part_67 : decode cX4_part 67 = .ok (.invokestatic 71, 3) := by decide +kernel
theorem dX4_part_70 : decode cX4_part 70 = .ok (.ifCond .ne 6, 3) := by decide +kernel
theorem dX4_part_73 : decode cX4_part 73 = .ok (.bipush (-2), 2) := by decide +kernel
theorem dX4_part_75 : decode cX4_part 75 = .ok (.ireturn, 1) := by decide +kernel
theorem dX4_part_76 : decode cX4_part 76 = .ok (.iload 5, 2) := by decide +kernel
theorem dX4_part_78 : decode cX4_part 78 = .ok (.invokestatic 91, 3) := by decide +kernel
theorem dX4_part_81 : decode cX4_part 81 = .ok (.ifCond .eq 17, 3) := by decide +kernel
theorem dX4_part_84 : decode cX4_part 84 = .ok (.aload_n 0, 1) := by decide +kernel
theorem dX4_part_85 : decode cX4_part 85 = .ok (.iload_n 1, 1) := by decide +kernel
theorem dX4_part_86 : decode cX4_part 86 = .ok (.iload 6, 2) := by decide +kernel
theorem dX4_part_88 : decode cX4_part 88 = .ok (.iload 4, 2) := by decide +kernel
theorem dX4_part_90 : decode cX4_part 90 = .ok (.iload 5, 2) := by decide +kernel
theorem dX4_part_92 : decode cX4_part 92 = .ok (.invokevirtual 112, 3) := by decide +kernel
theorem dX4_part_95 : decode cX4_part 95 = .ok (.goto 4, 3) := by decide +kernel
theorem dX4_part_98 : decode cX4_part 98 = .ok (.iconst (-1), 1) := by decide +kernel
theorem dX4_part_99 : decode cX4_part 99 = .ok (.ireturn, 1) := by decide +kernel
theorem dX4_tick_0 : decode cX4_tick 0 = .ok (.iload_n 1, 1) := by decide +kernel
theorem dX4_tick_1 : decode cX4_tick 1 = .ok (.iconst 1, 1) := by decide +kernel
theorem dX4_tick_2 : decode cX4_tick 2 = .ok (.bipush 100, 2) := by decide +kernel
theorem dX4_tick_4 : decode cX4_tick 4 = .ok (.invokestatic 20, 3) := by decide +kernel
theorem dX4_tick_7 : decode cX4_tick 7 = .ok (.ifCond .ne 6, 3) := by decide +kernel
theorem dX4_tick_10 : decode cX4_tick 10 = .ok (.bipush (-2), 2) := by decide +kernel
theorem dX4_tick_12 : decode cX4_tick 12 = .ok (.ireturn, 1) := by decide +kernel
theorem dX4_tick_13 : decode cX4_tick 13 = .ok (.iconst 0, 1) := by decide +kernel
theorem dX4_tick_14 : decode cX4_tick 14 = .ok (.istore_n 2, 1) := by decide +kernel
theorem dX4_tick_15 : decode cX4_tick 15 = .ok (.iconst 0, 1) := by decide +kernel
theorem dX4_tick_16 : decode cX4_tick 16 = .ok (.istore_n 3, 1) := by decide +kernel
theorem dX4_tick_17 : decode cX4_tick 17 = .ok (.iload_n 3, 1) := by decide +kernel
theorem dX4_tick_18 : decode cX4_tick 18 = .ok (.iload_n 1, 1) := by decide +kernel
theorem dX4_tick_19 : decode cX4_tick 19 = .ok (.if_icmp .ge 27, 3) := by decide +kernel
theorem dX4_tick_22 : decode cX4_tick 22 = .ok (.aload_n 0, 1) := by decide +kernel
theorem dX4_tick_23 : decode cX4_tick 23 = .ok (.getfield 7, 3) := by decide +kernel
theorem dX4_tick_26 : decode cX4_tick 26 = .ok (.bipush 6, 2) := by decide +kernel
theorem dX4_tick_28 : decode cX4_tick 28 = .ok (.dup2, 1) := by decide +kernel
theorem dX4_tick_29 : decode cX4_tick 29 = .ok (.iaload, 1) := by decide +kernel
theorem dX4_tick_30 : decode cX4_tick 30 = .ok (.iconst 1, 1) := by decide +kernel
theorem dX4_tick_31 : decode cX4_tick 31 = .ok (.iadd, 1) := by decide +kernel
theorem dX4_tick_32 : decode cX4_tick 32 = .ok (.iastore, 1) := by decide +kernel
theorem dX4_tick_33 : decode cX4_tick 33 = .ok (.iload_n 2, 1) := by decide +kernel
theorem dX4_tick_34 : decode cX4_tick 34 = .ok (.aload_n 0, 1) := by decide +kernel
theorem dX4_tick_35 : decode cX4_tick 35 = .ok (.invokevirtual 42, 3) := by decide +kernel
theorem dX4_tick_38 : decode cX4_tick 38 = .ok (.iadd, 1) := by decide +kernel
theorem dX4_tick_39 : decode cX4_tick 39 = .ok (.istore_n 2, 1) := by decide +kernel
theorem dX4_tick_40 : decode cX4_tick 40 = .ok (.iinc 3 1, 3) := by decide +kernel
theorem dX4_tick_43 : decode cX4_tick 43 = .ok (.goto (-26), 3) := by decide +kernel
theorem dX4_tick_46 : decode cX4_tick 46 = .ok (.iload_n 2, 1) := by decide +kernel
theorem dX4_tick_47 : decode cX4_tick 47 = .ok (.ireturn, 1) := by decide +kernel
theorem dX4_drop_0 : decode cX4_drop 0 = .ok (.iload_n 1, 1) := by decide +kernel
theorem dX4_drop_1 : decode cX4_drop 1 = .ok (.invokestatic 68, 3) := by decide +kernel
theorem dX4_drop_4 : decode cX4_drop 4 = .ok (.ifCond .ne 5, 3) := by decide +kernel
theorem dX4_drop_7 : decode cX4_drop 7 = .ok (.iconst (-1), 1) := by decide +kernel
theorem dX4_drop_8 : decode cX4_drop 8 = .ok (.ireturn, 1) := by decide +kernel
theorem dX4_drop_9 : decode cX4_drop 9 = .ok (.iconst 0, 1) := by decide +kernel
theorem dX4_drop_10 : decode cX4_drop 10 = .ok (.istore_n 2, 1) := by decide +kernel
theorem dX4_drop_11 : decode cX4_drop 11 = .ok (.iconst 0, 1) := by decide +kernel
theorem dX4_drop_12 : decode cX4_drop 12 = .ok (.istore_n 3, 1) := by decide +kernel
theorem dX4_drop_13 : decode cX4_drop 13 = .ok (.iload_n 3, 1) := by decide +kernel
theorem dX4_drop_14 : decode cX4_drop 14 = .ok (.bipush 16, 2) := by decide +kernel
theorem dX4_drop_16 : decode cX4_drop 16 = .ok (.if_icmp .ge 30, 3) := by decide +kernel
theorem dX4_drop_19 : decode cX4_drop 19 = .ok (.aload_n 0, 1) := by decide +kernel
theorem dX4_drop_20 : decode cX4_drop 20 = .ok (.getfield 7, 3) := by decide +kernel
theorem dX4_drop_23 : decode cX4_drop 23 = .ok (.bipush 7, 2) := by decide +kernel
theorem dX4_drop_25 : decode cX4_drop 25 = .ok (.iload_n 3, 1) := by decide +kernel
theorem dX4_drop_26 : decode cX4_drop 26 = .ok (.iadd, 1) := by decide +kernel
theorem dX4_drop_27 : decode cX4_drop 27 = .ok (.iaload, 1) := by decide +kernel
theorem dX4_drop_28 : decode cX4_drop 28 = .ok (.iload_n 1, 1) := by decide +kernel
theorem dX4_drop_29 : decode cX4_drop 29 = .ok (.if_icmp .ne 11, 3) := by decide +kernel
theorem dX4_drop_32 : decode cX4_drop 32 = .ok (.aload_n 0, 1) := by decide +kernel
theorem dX4_drop_33 : decode cX4_drop 33 = .ok (.iload_n 3, 1) := by decide +kernel
theorem dX4_drop_34 : decode cX4_drop 34 = .ok (.invokevirtual 32, 3) := by decide +kernel
theorem dX4_drop_37 : decode cX4_drop 37 = .ok (.iinc 2 1, 3) := by decide +kernel
theorem dX4_drop_40 : decode cX4_drop 40 = .ok (.iinc 3 1, 3) := by decide +kernel
theorem dX4_drop_43 : decode cX4_drop 43 = .ok (.goto (-30), 3) := by decide +kernel
theorem dX4_drop_46 : decode cX4_drop 46 = .ok (.iload_n 2, 1) := by decide +kernel
theorem dX4_drop_47 : decode cX4_drop 47 = .ok (.ireturn, 1) := by decide +kernel
theorem dX4_sentMany_0 : decode cX4_sentMany 0 = .ok (.iconst 0, 1) := by decide +kernel
theorem dX4_sentMany_1 : decode cX4_sentMany 1 = .ok (.istore_n 2, 1) := by decide +kernel
theorem dX4_sentMany_2 : decode cX4_sentMany 2 = .ok (.iconst 0, 1) := by decide +kernel
theorem dX4_sentMany_3 : decode cX4_sentMany 3 = .ok (.istore_n 3, 1) := by decide +kernel
theorem dX4_sentMany_4 : decode cX4_sentMany 4 = .ok (.iload_n 3, 1) := by decide +kernel
theorem dX4_sentMany_5 : decode cX4_sentMany 5 = .ok (.iconst 4, 1) := by decide +kernel
theorem dX4_sentMany_6 : decode cX4_sentMany 6 = .ok (.if_icmp .gt 46, 3) := by decide +kernel
theorem dX4_sentMany_9 : decode cX4_sentMany 9 = .ok (.iconst 0, 1) := by decide +kernel
theorem dX4_sentMany_10 : decode cX4_sentMany 10 = .ok (.istore 4, 2) := by decide +kernel
theorem dX4_sentMany_12 : decode cX4_sentMany 12 = .ok (.iload 4, 2) := by decide +kernel
theorem dX4_sentMany_14 : decode cX4_sentMany 14 = .ok (.bipush 32, 2) := by decide +kernel
theorem dX4_sentMany_16 : decode cX4_sentMany 16 = .ok (.if_icmp .ge 30, 3) := by decide +kernel
theorem dX4_sentMany_19 : decode cX4_sentMany 19 = .ok (.iload_n 2, 1) := by decide +kernel
theorem dX4_sentMany_20 : decode cX4_sentMany 20 = .ok (.aload_n 0, 1) := by decide +kernel
theorem dX4_sentMany_21 : decode cX4_sentMany 21 = .ok (.getfield 7, 3) := by decide +kernel
theorem dX4_sentMany_24 : decode cX4_sentMany 24 = .ok (.bipush 103, 2) := by decide +kernel
theorem dX4_sentMany_26 : decode cX4_sentMany 26 = .ok (.iconst 5, 1) := by decide +kernel
theorem dX4_sentMany_27 : decode cX4_sentMany 27 = .ok (.iload_n 1, 1) := by decide +kernel
theorem dX4_sentMany_28 : decode cX4_sentMany 28 = .ok (.imul, 1) := by decide +kernel
theorem dX4_sentMany_29 : decode cX4_sentMany 29 = .ok (.iadd, 1) := by decide +kernel
theorem dX4_sentMany_30 : decode cX4_sentMany 30 = .ok (.iload_n 3, 1) := by decide +kernel
theorem dX4_sentMany_31 : decode cX4_sentMany 31 = .ok (.iadd, 1) := by decide +kernel
theorem dX4_sentMany_32 : decode cX4_sentMany 32 = .ok (.iaload, 1) := by decide +kernel
theorem dX4_sentMany_33 : decode cX4_sentMany 33 = .ok (.iload 4, 2) := by decide +kernel
theorem dX4_sentMany_35 : decode cX4_sentMany 35 = .ok (.ishr, 1) := by decide +kernel
theorem dX4_sentMany_36 : decode cX4_sentMany 36 = .ok (.iconst 1, 1) := by decide +kernel
theorem dX4_sentMany_37 : decode cX4_sentMany 37 = .ok (.iand, 1) := by decide +kernel
theorem dX4_sentMany_38 : decode cX4_sentMany 38 = .ok (.iadd, 1) := by decide +kernel
theorem dX4_sentMany_39 : decode cX4_sentMany 39 = .ok (.istore_n 2, 1) := by decide +kernel
theorem dX4_sentMany_40 : decode cX4_sentMany 40 = .ok (.iinc 4 1, 3) := by decide +kernel
theorem dX4_sentMany_43 : decode cX4_sentMany 43 = .ok (.goto (-31), 3) := by decide +kernel
theorem dX4_sentMany_46 : decode cX4_sentMany 46 = .ok (.iinc 3 1, 3) := by decide +kernel
theorem dX4_sentMany_49 : decode cX4_sentMany 49 = .ok (.goto (-45), 3) := by decide +kernel
theorem dX4_sentMany_52 : decode cX4_sentMany 52 = .ok (.iload_n 2, 1) := by decide +kernel
theorem dX4_sentMany_53 : decode cX4_sentMany 53 = .ok (.ireturn, 1) := by decide +kernel
theorem dX4_toldOf_0 : decode cX4_toldOf 0 = .ok (.iload_n 2, 1) := by decide +kernel
theorem dX4_toldOf_1 : decode cX4_toldOf 1 = .ok (.tableswitch 81 0 4 #[35, 41, 51, 65, 71], 35) := by decide +kernel
theorem dX4_toldOf_36 : decode cX4_toldOf 36 = .ok (.aload_n 0, 1) := by decide +kernel
theorem dX4_toldOf_37 : decode cX4_toldOf 37 = .ok (.iload_n 1, 1) := by decide +kernel
theorem dX4_toldOf_38 : decode cX4_toldOf 38 = .ok (.invokevirtual 88, 3) := by decide +kernel
theorem dX4_toldOf_41 : decode cX4_toldOf 41 = .ok (.ireturn, 1) := by decide +kernel
theorem dX4_toldOf_42 : decode cX4_toldOf 42 = .ok (.aload_n 0, 1) := by decide +kernel
theorem dX4_toldOf_43 : decode cX4_toldOf 43 = .ok (.getfield 7, 3) := by decide +kernel
theorem dX4_toldOf_46 : decode cX4_toldOf 46 = .ok (.bipush 71, 2) := by decide +kernel
theorem dX4_toldOf_48 : decode cX4_toldOf 48 = .ok (.iload_n 1, 1) := by decide +kernel
theorem dX4_toldOf_49 : decode cX4_toldOf 49 = .ok (.iadd, 1) := by decide +kernel
theorem dX4_toldOf_50 : decode cX4_toldOf 50 = .ok (.iaload, 1) := by decide +kernel
theorem dX4_toldOf_51 : decode cX4_toldOf 51 = .ok (.ireturn, 1) := by decide +kernel
theorem dX4_toldOf_52 : decode cX4_toldOf 52 = .ok (.aload_n 0, 1) := by decide +kernel
theorem dX4_toldOf_53 : decode cX4_toldOf 53 = .ok (.iload_n 1, 1) := by decide +kernel
theorem dX4_toldOf_54 : decode cX4_toldOf 54 = .ok (.invokevirtual 28, 3) := by decide +kernel
theorem dX4_toldOf_57 : decode cX4_toldOf 57 = .ok (.aload_n 0, 1) := by decide +kernel
theorem dX4_toldOf_58 : decode cX4_toldOf 58 = .ok (.getfield 7, 3) := by decide +kernel
theorem dX4_toldOf_61 : decode cX4_toldOf 61 = .ok (.bipush 6, 2) := by decide +kernel
theorem dX4_toldOf_63 : decode cX4_toldOf 63 = .ok (.iaload, 1) := by decide +kernel
theorem dX4_toldOf_64 : decode cX4_toldOf 64 = .ok (.isub, 1) := by decide +kernel
theorem dX4_toldOf_65 : decode cX4_toldOf 65 = .ok (.ireturn, 1) := by decide +kernel
theorem dX4_toldOf_66 : decode cX4_toldOf 66 = .ok (.aload_n 0, 1) := by decide +kernel
theorem dX4_toldOf_67 : decode cX4_toldOf 67 = .ok (.iload_n 1, 1) := by decide +kernel
theorem dX4_toldOf_68 : decode cX4_toldOf 68 = .ok (.invokevirtual 115, 3) := by decide +kernel
theorem dX4_toldOf_71 : decode cX4_toldOf 71 = .ok (.ireturn, 1) := by decide +kernel
theorem dX4_toldOf_72 : decode cX4_toldOf 72 = .ok (.aload_n 0, 1) := by decide +kernel
theorem dX4_toldOf_73 : decode cX4_toldOf 73 = .ok (.getfield 7, 3) := by decide +kernel
theorem dX4_toldOf_76 : decode cX4_toldOf 76 = .ok (.bipush 39, 2) := by decide +kernel
theorem dX4_toldOf_78 : decode cX4_toldOf 78 = .ok (.iload_n 1, 1) := by decide +kernel
theorem dX4_toldOf_79 : decode cX4_toldOf 79 = .ok (.iadd, 1) := by decide +kernel
theorem dX4_toldOf_80 : decode cX4_toldOf 80 = .ok (.iaload, 1) := by decide +kernel
theorem dX4_toldOf_81 : decode cX4_toldOf 81 = .ok (.ireturn, 1) := by decide +kernel
theorem dX4_toldOf_82 : decode cX4_toldOf 82 = .ok (.aload_n 0, 1) := by decide +kernel
theorem dX4_toldOf_83 : decode cX4_toldOf 83 = .ok (.getfield 7, 3) := by decide +kernel
theorem dX4_toldOf_86 : decode cX4_toldOf 86 = .ok (.bipush 55, 2) := by decide +kernel
theorem dX4_toldOf_88 : decode cX4_toldOf 88 = .ok (.iload_n 1, 1) := by decide +kernel
theorem dX4_toldOf_89 : decode cX4_toldOf 89 = .ok (.iadd, 1) := by decide +kernel
theorem dX4_toldOf_90 : decode cX4_toldOf 90 = .ok (.iaload, 1) := by decide +kernel
theorem dX4_toldOf_91 : decode cX4_toldOf 91 = .ok (.ireturn, 1) := by decide +kernel
theorem dX4_of_0 : decode cX4_of 0 = .ok (.iload_n 1, 1) := by decide +kernel
theorem dX4_of_1 : decode cX4_of 1 = .ok (.invokestatic 91, 3) := by decide +kernel
theorem dX4_of_4 : decode cX4_of 4 = .ok (.ifCond .ne 5, 3) := by decide +kernel
theorem dX4_of_7 : decode cX4_of 7 = .ok (.iconst (-1), 1) := by decide +kernel
theorem dX4_of_8 : decode cX4_of 8 = .ok (.ireturn, 1) := by decide +kernel
theorem dX4_of_9 : decode cX4_of 9 = .ok (.iload_n 2, 1) := by decide +kernel
theorem dX4_of_10 : decode cX4_of 10 = .ok (.iconst 0, 1) := by decide +kernel
theorem dX4_of_11 : decode cX4_of 11 = .ok (.iconst 5, 1) := by decide +kernel
theorem dX4_of_12 : decode cX4_of 12 = .ok (.invokestatic 20, 3) := by decide +kernel
theorem dX4_of_15 : decode cX4_of 15 = .ok (.ifCond .ne 6, 3) := by decide +kernel
theorem dX4_of_18 : decode cX4_of 18 = .ok (.bipush (-2), 2) := by decide +kernel
theorem dX4_of_20 : decode cX4_of 20 = .ok (.ireturn, 1) := by decide +kernel
theorem dX4_of_21 : decode cX4_of 21 = .ok (.aload_n 0, 1) := by decide +kernel
theorem dX4_of_22 : decode cX4_of 22 = .ok (.iload_n 1, 1) := by decide +kernel
theorem dX4_of_23 : decode cX4_of 23 = .ok (.invokevirtual 24, 3) := by decide +kernel
theorem dX4_of_26 : decode cX4_of 26 = .ok (.ifCond .eq 12, 3) := by decide +kernel
theorem dX4_of_29 : decode cX4_of 29 = .ok (.aload_n 0, 1) := by decide +kernel
theorem dX4_of_30 : decode cX4_of 30 = .ok (.iload_n 1, 1) := by decide +kernel
theorem dX4_of_31 : decode cX4_of 31 = .ok (.iload_n 2, 1) := by decide +kernel
theorem dX4_of_32 : decode cX4_of 32 = .ok (.invokevirtual 118, 3) := by decide +kernel
theorem dX4_of_35 : decode cX4_of 35 = .ok (.goto 5, 3) := by decide +kernel
theorem dX4_of_38 : decode cX4_of 38 = .ok (.bipush (-6), 2) := by decide +kernel
theorem dX4_of_40 : decode cX4_of 40 = .ok (.ireturn, 1) := by decide +kernel
theorem dX4_sent_0 : decode cX4_sent 0 = .ok (.iload_n 1, 1) := by decide +kernel
theorem dX4_sent_1 : decode cX4_sent 1 = .ok (.invokestatic 91, 3) := by decide +kernel
theorem dX4_sent_4 : decode cX4_sent 4 = .ok (.ifCond .ne 5, 3) := by decide +kernel
theorem dX4_sent_7 : decode cX4_sent 7 = .ok (.iconst (-1), 1) := by decide +kernel
theorem dX4_sent_8 : decode cX4_sent 8 = .ok (.ireturn, 1) := by decide +kernel
theorem dX4_sent_9 : decode cX4_sent 9 = .ok (.iload_n 2, 1) := by decide +kernel
theorem dX4_sent_10 : decode cX4_sent 10 = .ok (.iload_n 3, 1) := by decide +kernel
theorem dX4_sent_11 : decode cX4_sent 11 = .ok (.invokestatic 74, 3) := by decide +kernel
theorem dX4_sent_14 : decode cX4_sent 14 = .ok (.ifCond .ne 6, 3) := by decide +kernel
theorem dX4_sent_17 : decode cX4_sent 17 = .ok (.bipush (-2), 2) := by decide +kernel
theorem dX4_sent_19 : decode cX4_sent 19 = .ok (.ireturn, 1) := by decide +kernel
theorem dX4_sent_20 : decode cX4_sent 20 = .ok (.aload_n 0, 1) := by decide +kernel
theorem dX4_sent_21 : decode cX4_sent 21 = .ok (.iload_n 1, 1) := by decide +kernel
theorem dX4_sent_22 : decode cX4_sent 22 = .ok (.invokevirtual 24, 3) := by decide +kernel
theorem dX4_sent_25 : decode cX4_sent 25 = .ok (.ifCond .eq 23, 3) := by decide +kernel
theorem dX4_sent_28 : decode cX4_sent 28 = .ok (.aload_n 0, 1) := by decide +kernel
theorem dX4_sent_29 : decode cX4_sent 29 = .ok (.getfield 7, 3) := by decide +kernel
theorem dX4_sent_32 : decode cX4_sent 32 = .ok (.bipush 103, 2) := by decide +kernel
theorem dX4_sent_34 : decode cX4_sent 34 = .ok (.iconst 5, 1) := by decide +kernel
theorem dX4_sent_35 : decode cX4_sent 35 = .ok (.iload_n 1, 1) := by decide +kernel
theorem dX4_sent_36 : decode cX4_sent 36 = .ok (.imul, 1) := by decide +kernel
theorem dX4_sent_37 : decode cX4_sent 37 = .ok (.iadd, 1) := by decide +kernel
theorem dX4_sent_38 : decode cX4_sent 38 = .ok (.iload_n 2, 1) := by decide +kernel
theorem dX4_sent_39 : decode cX4_sent 39 = .ok (.iadd, 1) := by decide +kernel
theorem dX4_sent_40 : decode cX4_sent 40 = .ok (.iaload, 1) := by decide +kernel
theorem dX4_sent_41 : decode cX4_sent 41 = .ok (.iload_n 3, 1) := by decide +kernel
theorem dX4_sent_42 : decode cX4_sent 42 = .ok (.ishr, 1) := by decide +kernel
theorem dX4_sent_43 : decode cX4_sent 43 = .ok (.iconst 1, 1) := by decide +kernel
theorem dX4_sent_44 : decode cX4_sent 44 = .ok (.iand, 1) := by decide +kernel
theorem dX4_sent_45 : decode cX4_sent 45 = .ok (.goto 5, 3) := by decide +kernel
theorem dX4_sent_48 : decode cX4_sent 48 = .ok (.bipush (-6), 2) := by decide +kernel
theorem dX4_sent_50 : decode cX4_sent 50 = .ok (.ireturn, 1) := by decide +kernel
theorem dX4_find_0 : decode cX4_find 0 = .ok (.iload_n 1, 1) := by decide +kernel
theorem dX4_find_1 : decode cX4_find 1 = .ok (.invokestatic 68, 3) := by decide +kernel
theorem dX4_find_4 : decode cX4_find 4 = .ok (.ifCond .ne 5, 3) := by decide +kernel
theorem dX4_find_7 : decode cX4_find 7 = .ok (.iconst (-1), 1) := by decide +kernel
theorem dX4_find_8 : decode cX4_find 8 = .ok (.ireturn, 1) := by decide +kernel
theorem dX4_find_9 : decode cX4_find 9 = .ok (.iload_n 2, 1) := by decide +kernel
theorem dX4_find_10 : decode cX4_find 10 = .ok (.invokestatic 71, 3) := by decide +kernel
theorem dX4_find_13 : decode cX4_find 13 = .ok (.ifCond .eq 24, 3) := by decide +kernel
theorem dX4_find_16 : decode cX4_find 16 = .ok (.iload_n 3, 1) := by decide +kernel
theorem dX4_find_17 : decode cX4_find 17 = .ok (.iload 4, 2) := by decide +kernel
theorem dX4_find_19 : decode cX4_find 19 = .ok (.invokestatic 74, 3) := by decide +kernel
theorem dX4_find_22 : decode cX4_find 22 = .ok (.ifCond .eq 15, 3) := by decide +kernel
theorem dX4_find_25 : decode cX4_find 25 = .ok (.aload_n 0, 1) := by decide +kernel
theorem dX4_find_26 : decode cX4_find 26 = .ok (.iload_n 1, 1) := by decide +kernel
theorem dX4_find_27 : decode cX4_find 27 = .ok (.iload_n 2, 1) := by decide +kernel
theorem dX4_find_28 : decode cX4_find 28 = .ok (.iload_n 3, 1) := by decide +kernel
theorem dX4_find_29 : decode cX4_find 29 = .ok (.iload 4, 2) := by decide +kernel
theorem dX4_find_31 : decode cX4_find 31 = .ok (.invokevirtual 57, 3) := by decide +kernel
theorem dX4_find_34 : decode cX4_find 34 = .ok (.goto 5, 3) := by decide +kernel
theorem dX4_find_37 : decode cX4_find 37 = .ok (.bipush (-2), 2) := by decide +kernel
theorem dX4_find_39 : decode cX4_find 39 = .ok (.ireturn, 1) := by decide +kernel
theorem dX4_next_0 : decode cX4_next 0 = .ok (.iload_n 1, 1) := by decide +kernel
theorem dX4_next_1 : decode cX4_next 1 = .ok (.invokestatic 68, 3) := by decide +kernel
theorem dX4_next_4 : decode cX4_next 4 = .ok (.ifCond .ne 5, 3) := by decide +kernel
theorem dX4_next_7 : decode cX4_next 7 = .ok (.iconst (-1), 1) := by decide +kernel
theorem dX4_next_8 : decode cX4_next 8 = .ok (.ireturn, 1) := by decide +kernel
theorem dX4_next_9 : decode cX4_next 9 = .ok (.iload_n 2, 1) := by decide +kernel
theorem dX4_next_10 : decode cX4_next 10 = .ok (.invokestatic 71, 3) := by decide +kernel
theorem dX4_next_13 : decode cX4_next 13 = .ok (.ifCond .eq 12, 3) := by decide +kernel
theorem dX4_next_16 : decode cX4_next 16 = .ok (.aload_n 0, 1) := by decide +kernel
theorem dX4_next_17 : decode cX4_next 17 = .ok (.iload_n 1, 1) := by decide +kernel
theorem dX4_next_18 : decode cX4_next 18 = .ok (.iload_n 2, 1) := by decide +kernel
theorem dX4_next_19 : decode cX4_next 19 = .ok (.invokevirtual 61, 3) := by decide +kernel
theorem dX4_next_22 : decode cX4_next 22 = .ok (.goto 5, 3) := by decide +kernel
theorem dX4_next_25 : decode cX4_next 25 = .ok (.bipush (-2), 2) := by decide +kernel
theorem dX4_next_27 : decode cX4_next 27 = .ok (.ireturn, 1) := by decide +kernel
theorem dX4_why_0 : decode cX4_why 0 = .ok (.iload_n 1, 1) := by decide +kernel
theorem dX4_why_1 : decode cX4_why 1 = .ok (.iload_n 2, 1) := by decide +kernel
theorem dX4_why_2 : decode cX4_why 2 = .ok (.invokestatic 74, 3) := by decide +kernel
theorem dX4_why_5 : decode cX4_why 5 = .ok (.ifCond .ne 6, 3) := by decide +kernel
theorem dX4_why_8 : decode cX4_why 8 = .ok (.bipush (-2), 2) := by decide +kernel
theorem dX4_why_10 : decode cX4_why 10 = .ok (.ireturn, 1) := by decide +kernel
theorem dX4_why_11 : decode cX4_why 11 = .ok (.iload_n 3, 1) := by decide +kernel
theorem dX4_why_12 : decode cX4_why 12 = .ok (.invokestatic 91, 3) := by decide +kernel
theorem dX4_why_15 : decode cX4_why 15 = .ok (.ifCond .eq 13, 3) := by decide +kernel
theorem dX4_why_18 : decode cX4_why 18 = .ok (.aload_n 0, 1) := by decide +kernel
theorem dX4_why_19 : decode cX4_why 19 = .ok (.iload_n 1, 1) := by decide +kernel
theorem dX4_why_20 : decode cX4_why 20 = .ok (.iload_n 2, 1) := by decide +kernel
theorem dX4_why_21 : decode cX4_why 21 = .ok (.iload_n 3, 1) := by decide +kernel
theorem dX4_why_22 : decode cX4_why 22 = .ok (.invokevirtual 84, 3) := by decide +kernel
theorem dX4_why_25 : decode cX4_why 25 = .ok (.goto 4, 3) := by decide +kernel
theorem dX4_why_28 : decode cX4_why 28 = .ok (.iconst (-1), 1) := by decide +kernel
theorem dX4_why_29 : decode cX4_why 29 = .ok (.ireturn, 1) := by decide +kernel
theorem dX4_block_0 : decode cX4_block 0 = .ok (.iload_n 1, 1) := by decide +kernel
theorem dX4_block_1 : decode cX4_block 1 = .ok (.iconst 0, 1) := by decide +kernel
theorem dX4_block_2 : decode cX4_block 2 = .ok (.iconst 3, 1) := by decide +kernel
theorem dX4_block_3 : decode cX4_block 3 = .ok (.invokestatic 20, 3) := by decide +kernel
theorem dX4_block_6 : decode cX4_block 6 = .ok (.ifCond .eq 11, 3) := by decide +kernel
theorem dX4_block_9 : decode cX4_block 9 = .ok (.aload_n 0, 1) := by decide +kernel
theorem dX4_block_10 : decode cX4_block 10 = .ok (.iload_n 1, 1) := by decide +kernel
theorem dX4_block_11 : decode cX4_block 11 = .ok (.invokevirtual 46, 3) := by decide +kernel
theorem dX4_block_14 : decode cX4_block 14 = .ok (.goto 4, 3) := by decide +kernel
theorem dX4_block_17 : decode cX4_block 17 = .ok (.iconst (-1), 1) := by decide +kernel
theorem dX4_block_18 : decode cX4_block 18 = .ok (.ireturn, 1) := by decide +kernel
theorem dX4_bindingsOf_0 : decode cX4_bindingsOf 0 = .ok (.iconst 0, 1) := by decide +kernel
theorem dX4_bindingsOf_1 : decode cX4_bindingsOf 1 = .ok (.istore_n 2, 1) := by decide +kernel
theorem dX4_bindingsOf_2 : decode cX4_bindingsOf 2 = .ok (.iconst 0, 1) := by decide +kernel
theorem dX4_bindingsOf_3 : decode cX4_bindingsOf 3 = .ok (.istore_n 3, 1) := by decide +kernel
theorem dX4_bindingsOf_4 : decode cX4_bindingsOf 4 = .ok (.iload_n 3, 1) := by decide +kernel
theorem dX4_bindingsOf_5 : decode cX4_bindingsOf 5 = .ok (.bipush 16, 2) := by decide +kernel
theorem dX4_bindingsOf_7 : decode cX4_bindingsOf 7 = .ok (.if_icmp .ge 30, 3) := by decide +kernel
theorem dX4_bindingsOf_10 : decode cX4_bindingsOf 10 = .ok (.iload_n 2, 1) := by decide +kernel
theorem dX4_bindingsOf_11 : decode cX4_bindingsOf 11 = .ok (.aload_n 0, 1) := by decide +kernel
theorem dX4_bindingsOf_12 : decode cX4_bindingsOf 12 = .ok (.getfield 7, 3) := by decide +kernel
theorem dX4_bindingsOf_15 : decode cX4_bindingsOf 15 = .ok (.bipush 7, 2) := by decide +kernel
theorem dX4_bindingsOf_17 : decode cX4_bindingsOf 17 = .ok (.iload_n 3, 1) := by decide +kernel
theorem dX4_bindingsOf_18 : decode cX4_bindingsOf 18 = .ok (.iadd, 1) := by decide +kernel
theorem dX4_bindingsOf_19 : decode cX4_bindingsOf 19 = .ok (.iaload, 1) := by decide +kernel
theorem dX4_bindingsOf_20 : decode cX4_bindingsOf 20 = .ok (.iload_n 1, 1) := by decide +kernel
theorem dX4_bindingsOf_21 : decode cX4_bindingsOf 21 = .ok (.if_icmp .ne 7, 3) := by decide +kernel
theorem dX4_bindingsOf_24 : decode cX4_bindingsOf 24 = .ok (.iconst 1, 1) := by decide +kernel
theorem dX4_bindingsOf_25 : decode cX4_bindingsOf 25 = .ok (.goto 4, 3) := by decide +kernel
theorem dX4_bindingsOf_28 : decode cX4_bindingsOf 28 = .ok (.iconst 0, 1) := by decide +kernel
theorem dX4_bindingsOf_29 : decode cX4_bindingsOf 29 = .ok (.iadd, 1) := by decide +kernel
theorem dX4_bindingsOf_30 : decode cX4_bindingsOf 30 = .ok (.istore_n 2, 1) := by decide +kernel
theorem dX4_bindingsOf_31 : decode cX4_bindingsOf 31 = .ok (.iinc 3 1, 3) := by decide +kernel
theorem dX4_bindingsOf_34 : decode cX4_bindingsOf 34 = .ok (.goto (-30), 3) := by decide +kernel
theorem dX4_bindingsOf_37 : decode cX4_bindingsOf 37 = .ok (.iload_n 2, 1) := by decide +kernel
theorem dX4_bindingsOf_38 : decode cX4_bindingsOf 38 = .ok (.ireturn, 1) := by decide +kernel
theorem dX4_blocksOf_0 : decode cX4_blocksOf 0 = .ok (.iconst 0, 1) := by decide +kernel
theorem dX4_blocksOf_1 : decode cX4_blocksOf 1 = .ok (.istore_n 2, 1) := by decide +kernel
theorem dX4_blocksOf_2 : decode cX4_blocksOf 2 = .ok (.iconst 0, 1) := by decide +kernel
theorem dX4_blocksOf_3 : decode cX4_blocksOf 3 = .ok (.istore_n 3, 1) := by decide +kernel
theorem dX4_blocksOf_4 : decode cX4_blocksOf 4 = .ok (.iload_n 3, 1) := by decide +kernel
theorem dX4_blocksOf_5 : decode cX4_blocksOf 5 = .ok (.iconst 4, 1) := by decide +kernel
theorem dX4_blocksOf_6 : decode cX4_blocksOf 6 = .ok (.if_icmp .ge 28, 3) := by decide +kernel
theorem dX4_blocksOf_9 : decode cX4_blocksOf 9 = .ok (.iload_n 2, 1) := by decide +kernel
theorem dX4_blocksOf_10 : decode cX4_blocksOf 10 = .ok (.aload_n 0, 1) := by decide +kernel
theorem dX4_blocksOf_11 : decode cX4_blocksOf 11 = .ok (.iload_n 3, 1) := by decide +kernel
theorem dX4_blocksOf_12 : decode cX4_blocksOf 12 = .ok (.invokevirtual 46, 3) := by decide +kernel
theorem dX4_blocksOf_15 : decode cX4_blocksOf 15 = .ok (.iload_n 1, 1) := by decide +kernel
theorem dX4_blocksOf_16 : decode cX4_blocksOf 16 = .ok (.if_icmp .ne 9, 3) := by decide +kernel
theorem dX4_blocksOf_19 : decode cX4_blocksOf 19 = .ok (.iconst 1, 1) := by decide +kernel
theorem dX4_blocksOf_20 : decode cX4_blocksOf 20 = .ok (.iload_n 3, 1) := by decide +kernel
theorem dX4_blocksOf_21 : decode cX4_blocksOf 21 = .ok (.ishl, 1) := by decide +kernel
theorem dX4_blocksOf_22 : decode cX4_blocksOf 22 = .ok (.goto 4, 3) := by decide +kernel
theorem dX4_blocksOf_25 : decode cX4_blocksOf 25 = .ok (.iconst 0, 1) := by decide +kernel
theorem dX4_blocksOf_26 : decode cX4_blocksOf 26 = .ok (.ior, 1) := by decide +kernel
theorem dX4_blocksOf_27 : decode cX4_blocksOf 27 = .ok (.istore_n 2, 1) := by decide +kernel
theorem dX4_blocksOf_28 : decode cX4_blocksOf 28 = .ok (.iinc 3 1, 3) := by decide +kernel
theorem dX4_blocksOf_31 : decode cX4_blocksOf 31 = .ok (.goto (-27), 3) := by decide +kernel
theorem dX4_blocksOf_34 : decode cX4_blocksOf 34 = .ok (.iload_n 2, 1) := by decide +kernel
theorem dX4_blocksOf_35 : decode cX4_blocksOf 35 = .ok (.ireturn, 1) := by decide +kernel
theorem dX4_roomFor_0 : decode cX4_roomFor 0 = .ok (.iconst 0, 1) := by decide +kernel
theorem dX4_roomFor_1 : decode cX4_roomFor 1 = .ok (.istore_n 3, 1) := by decide +kernel
theorem dX4_roomFor_2 : decode cX4_roomFor 2 = .ok (.iconst 0, 1) := by decide +kernel
theorem dX4_roomFor_3 : decode cX4_roomFor 3 = .ok (.istore 4, 2) := by decide +kernel
theorem dX4_roomFor_5 : decode cX4_roomFor 5 = .ok (.iload 4, 2) := by decide +kernel
theorem dX4_roomFor_7 : decode cX4_roomFor 7 = .ok (.bipush 16, 2) := by decide +kernel
theorem dX4_roomFor_9 : decode cX4_roomFor 9 = .ok (.if_icmp .ge 50, 3) := by decide +kernel
theorem dX4_roomFor_12 : decode cX4_roomFor 12 = .ok (.aload_n 0, 1) := by decide +kernel
theorem dX4_roomFor_13 : decode cX4_roomFor 13 = .ok (.iload 4, 2) := by decide +kernel
theorem dX4_roomFor_15 : decode cX4_roomFor 15 = .ok (.iconst 4, 1) := by decide +kernel
theorem dX4_roomFor_16 : decode cX4_roomFor 16 = .ok (.idiv, 1) := by decide +kernel
theorem dX4_roomFor_17 : decode cX4_roomFor 17 = .ok (.invokevirtual 46, 3) := by decide +kernel
theorem dX4_roomFor_20 : decode cX4_roomFor 20 = .ok (.istore 5, 2) := by decide +kernel
theorem dX4_roomFor_22 : decode cX4_roomFor 22 = .ok (.iload_n 3, 1) := by decide +kernel
theorem dX4_roomFor_23 : decode cX4_roomFor 23 = .ok (.iload 5, 2) := by decide +kernel
theorem dX4_roomFor_25 : decode cX4_roomFor 25 = .ok (.iload_n 1, 1) := by decide +kernel
theorem dX4_roomFor_26 : decode cX4_roomFor 26 = .ok (.if_icmp .eq 10, 3) := by decide +kernel
theorem dX4_roomFor_29 : decode cX4_roomFor 29 = .ok (.iload 5, 2) := by decide +kernel
theorem dX4_roomFor_31 : decode cX4_roomFor 31 = .ok (.bipush (-6), 2) := by decide +kernel
theorem dX4_roomFor_33 : decode cX4_roomFor 33 = .ok (.if_icmp .ne 17, 3) := by decide +kernel
theorem dX4_roomFor_36 : decode cX4_roomFor 36 = .ok (.aload_n 0, 1) := by decide +kernel
theorem dX4_roomFor_37 : decode cX4_roomFor 37 = .ok (.iload 4, 2) := by decide +kernel
theorem dX4_roomFor_39 : decode cX4_roomFor 39 = .ok (.iload_n 2, 1) := by decide +kernel
theorem dX4_roomFor_40 : decode cX4_roomFor 40 = .ok (.invokevirtual 49, 3) := by decide +kernel
theorem dX4_roomFor_43 : decode cX4_roomFor 43 = .ok (.ifCond .eq 7, 3) := by decide +kernel
theorem dX4_roomFor_46 : decode cX4_roomFor 46 = .ok (.iconst 1, 1) := by decide +kernel
theorem dX4_roomFor_47 : decode cX4_roomFor 47 = .ok (.goto 4, 3) := by decide +kernel
theorem dX4_roomFor_50 : decode cX4_roomFor 50 = .ok (.iconst 0, 1) := by decide +kernel
theorem dX4_roomFor_51 : decode cX4_roomFor 51 = .ok (.iadd, 1) := by decide +kernel
theorem dX4_roomFor_52 : decode cX4_roomFor 52 = .ok (.istore_n 3, 1) := by decide +kernel
theorem dX4_roomFor_53 : decode cX4_roomFor 53 = .ok (.iinc 4 1, 3) := by decide +kernel
theorem dX4_roomFor_56 : decode cX4_roomFor 56 = .ok (.goto (-51), 3) := by decide +kernel
theorem dX4_roomFor_59 : decode cX4_roomFor 59 = .ok (.iload_n 3, 1) := by decide +kernel
theorem dX4_roomFor_60 : decode cX4_roomFor 60 = .ok (.ireturn, 1) := by decide +kernel
theorem dX4_host_0 : decode cX4_host 0 = .ok (.iload_n 1, 1) := by decide +kernel
theorem dX4_host_1 : decode cX4_host 1 = .ok (.invokestatic 68, 3) := by decide +kernel
theorem dX4_host_4 : decode cX4_host 4 = .ok (.ifCond .ne 5, 3) := by decide +kernel
theorem dX4_host_7 : decode cX4_host 7 = .ok (.iconst (-1), 1) := by decide +kernel
theorem dX4_host_8 : decode cX4_host 8 = .ok (.ireturn, 1) := by decide +kernel
theorem dX4_host_9 : decode cX4_host 9 = .ok (.iload_n 2, 1) := by decide +kernel
theorem dX4_host_10 : decode cX4_host 10 = .ok (.tableswitch 51 0 3 #[30, 36, 42, 42], 30) := by decide +kernel
theorem dX4_host_40 : decode cX4_host 40 = .ok (.aload_n 0, 1) := by decide +kernel
theorem dX4_host_41 : decode cX4_host 41 = .ok (.iload_n 1, 1) := by decide +kernel
theorem dX4_host_42 : decode cX4_host 42 = .ok (.invokevirtual 121, 3) := by decide +kernel
theorem dX4_host_45 : decode cX4_host 45 = .ok (.ireturn, 1) := by decide +kernel
theorem dX4_host_46 : decode cX4_host 46 = .ok (.aload_n 0, 1) := by decide +kernel
theorem dX4_host_47 : decode cX4_host 47 = .ok (.iload_n 1, 1) := by decide +kernel
theorem dX4_host_48 : decode cX4_host 48 = .ok (.invokevirtual 124, 3) := by decide +kernel
theorem dX4_host_51 : decode cX4_host 51 = .ok (.ireturn, 1) := by decide +kernel
theorem dX4_host_52 : decode cX4_host 52 = .ok (.aload_n 0, 1) := by decide +kernel
theorem dX4_host_53 : decode cX4_host 53 = .ok (.iload_n 1, 1) := by decide +kernel
theorem dX4_host_54 : decode cX4_host 54 = .ok (.iload_n 2, 1) := by decide +kernel
theorem dX4_host_55 : decode cX4_host 55 = .ok (.iconst 2, 1) := by decide +kernel
theorem dX4_host_56 : decode cX4_host 56 = .ok (.isub, 1) := by decide +kernel
theorem dX4_host_57 : decode cX4_host 57 = .ok (.invokevirtual 127, 3) := by decide +kernel
theorem dX4_host_60 : decode cX4_host 60 = .ok (.ireturn, 1) := by decide +kernel
theorem dX4_host_61 : decode cX4_host 61 = .ok (.bipush (-2), 2) := by decide +kernel
theorem dX4_host_63 : decode cX4_host 63 = .ok (.ireturn, 1) := by decide +kernel
theorem dX4_soon_0 : decode cX4_soon 0 = .ok (.bipush (-6), 2) := by decide +kernel
theorem dX4_soon_2 : decode cX4_soon 2 = .ok (.istore_n 1, 1) := by decide +kernel
theorem dX4_soon_3 : decode cX4_soon 3 = .ok (.iconst 0, 1) := by decide +kernel
theorem dX4_soon_4 : decode cX4_soon 4 = .ok (.istore_n 2, 1) := by decide +kernel
theorem dX4_soon_5 : decode cX4_soon 5 = .ok (.iload_n 2, 1) := by decide +kernel
theorem dX4_soon_6 : decode cX4_soon 6 = .ok (.bipush 16, 2) := by decide +kernel
theorem dX4_soon_8 : decode cX4_soon 8 = .ok (.if_icmp .ge 46, 3) := by decide +kernel
theorem dX4_soon_11 : decode cX4_soon 11 = .ok (.aload_n 0, 1) := by decide +kernel
theorem dX4_soon_12 : decode cX4_soon 12 = .ok (.iload_n 2, 1) := by decide +kernel
theorem dX4_soon_13 : decode cX4_soon 13 = .ok (.invokevirtual 24, 3) := by decide +kernel
theorem dX4_soon_16 : decode cX4_soon 16 = .ok (.ifCond .eq 32, 3) := by decide +kernel
theorem dX4_soon_19 : decode cX4_soon 19 = .ok (.aload_n 0, 1) := by decide +kernel
theorem dX4_soon_20 : decode cX4_soon 20 = .ok (.iload_n 2, 1) := by decide +kernel
theorem dX4_soon_21 : decode cX4_soon 21 = .ok (.invokevirtual 28, 3) := by decide +kernel
theorem dX4_soon_24 : decode cX4_soon 24 = .ok (.aload_n 0, 1) := by decide +kernel
theorem dX4_soon_25 : decode cX4_soon 25 = .ok (.getfield 7, 3) := by decide +kernel
theorem dX4_soon_28 : decode cX4_soon 28 = .ok (.bipush 6, 2) := by decide +kernel
theorem dX4_soon_30 : decode cX4_soon 30 = .ok (.iaload, 1) := by decide +kernel
theorem dX4_soon_31 : decode cX4_soon 31 = .ok (.isub, 1) := by decide +kernel
theorem dX4_soon_32 : decode cX4_soon 32 = .ok (.istore_n 3, 1) := by decide +kernel
theorem dX4_soon_33 : decode cX4_soon 33 = .ok (.iload_n 1, 1) := by decide +kernel
theorem dX4_soon_34 : decode cX4_soon 34 = .ok (.ifCond .lt 8, 3) := by decide +kernel
theorem dX4_soon_37 : decode cX4_soon 37 = .ok (.iload_n 3, 1) := by decide +kernel
theorem dX4_soon_38 : decode cX4_soon 38 = .ok (.iload_n 1, 1) := by decide +kernel
theorem dX4_soon_39 : decode cX4_soon 39 = .ok (.if_icmp .ge 7, 3) := by decide +kernel
theorem dX4_soon_42 : decode cX4_soon 42 = .ok (.iload_n 3, 1) := by decide +kernel
theorem dX4_soon_43 : decode cX4_soon 43 = .ok (.goto 4, 3) := by decide +kernel
theorem dX4_soon_46 : decode cX4_soon 46 = .ok (.iload_n 1, 1) := by decide +kernel
theorem dX4_soon_47 : decode cX4_soon 47 = .ok (.istore_n 1, 1) := by decide +kernel
theorem dX4_soon_48 : decode cX4_soon 48 = .ok (.iinc 2 1, 3) := by decide +kernel
theorem dX4_soon_51 : decode cX4_soon 51 = .ok (.goto (-46), 3) := by decide +kernel
theorem dX4_soon_54 : decode cX4_soon 54 = .ok (.iload_n 1, 1) := by decide +kernel
theorem dX4_soon_55 : decode cX4_soon 55 = .ok (.ireturn, 1) := by decide +kernel
theorem dX4_image_0 : decode cX4_image 0 = .ok (.iload_n 1, 1) := by decide +kernel
theorem dX4_image_1 : decode cX4_image 1 = .ok (.iconst 0, 1) := by decide +kernel
theorem dX4_image_2 : decode cX4_image 2 = .ok (.iconst 1, 1) := by decide +kernel
theorem dX4_image_3 : decode cX4_image 3 = .ok (.invokestatic 20, 3) := by decide +kernel
theorem dX4_image_6 : decode cX4_image 6 = .ok (.ifCond .ne 6, 3) := by decide +kernel
theorem dX4_image_9 : decode cX4_image 9 = .ok (.bipush (-2), 2) := by decide +kernel
theorem dX4_image_11 : decode cX4_image 11 = .ok (.ireturn, 1) := by decide +kernel
theorem dX4_image_12 : decode cX4_image 12 = .ok (.iconst 0, 1) := by decide +kernel
theorem dX4_image_13 : decode cX4_image 13 = .ok (.istore_n 2, 1) := by decide +kernel
theorem dX4_image_14 : decode cX4_image 14 = .ok (.iload_n 2, 1) := by decide +kernel
theorem dX4_image_15 : decode cX4_image 15 = .ok (.sipush 503, 3) := by decide +kernel
theorem dX4_image_18 : decode cX4_image 18 = .ok (.if_icmp .ge 27, 3) := by decide +kernel
theorem dX4_image_21 : decode cX4_image 21 = .ok (.aload_n 0, 1) := by decide +kernel
theorem dX4_image_22 : decode cX4_image 22 = .ok (.getfield 13, 3) := by decide +kernel
theorem dX4_image_25 : decode cX4_image 25 = .ok (.sipush 503, 3) := by decide +kernel
theorem dX4_image_28 : decode cX4_image 28 = .ok (.iload_n 1, 1) := by decide +kernel
theorem dX4_image_29 : decode cX4_image 29 = .ok (.imul, 1) := by decide +kernel
theorem dX4_image_30 : decode cX4_image 30 = .ok (.iload_n 2, 1) := by decide +kernel
theorem dX4_image_31 : decode cX4_image 31 = .ok (.iadd, 1) := by decide +kernel
theorem dX4_image_32 : decode cX4_image 32 = .ok (.aload_n 0, 1) := by decide +kernel
theorem dX4_image_33 : decode cX4_image 33 = .ok (.getfield 7, 3) := by decide +kernel
theorem dX4_image_36 : decode cX4_image 36 = .ok (.iload_n 2, 1) := by decide +kernel
theorem dX4_image_37 : decode cX4_image 37 = .ok (.iaload, 1) := by decide +kernel
theorem dX4_image_38 : decode cX4_image 38 = .ok (.iastore, 1) := by decide +kernel
theorem dX4_image_39 : decode cX4_image 39 = .ok (.iinc 2 1, 3) := by decide +kernel
theorem dX4_image_42 : decode cX4_image 42 = .ok (.goto (-28), 3) := by decide +kernel
theorem dX4_image_45 : decode cX4_image 45 = .ok (.aload_n 0, 1) := by decide +kernel
theorem dX4_image_46 : decode cX4_image 46 = .ok (.getfield 16, 3) := by decide +kernel
theorem dX4_image_49 : decode cX4_image 49 = .ok (.iload_n 1, 1) := by decide +kernel
theorem dX4_image_50 : decode cX4_image 50 = .ok (.iconst 1, 1) := by decide +kernel
theorem dX4_image_51 : decode cX4_image 51 = .ok (.bastore, 1) := by decide +kernel
theorem dX4_image_52 : decode cX4_image 52 = .ok (.iconst 1, 1) := by decide +kernel
theorem dX4_image_53 : decode cX4_image 53 = .ok (.ireturn, 1) := by decide +kernel
theorem dX4_restore_0 : decode cX4_restore 0 = .ok (.iload_n 1, 1) := by decide +kernel
theorem dX4_restore_1 : decode cX4_restore 1 = .ok (.iconst 0, 1) := by decide +kernel
theorem dX4_restore_2 : decode cX4_restore 2 = .ok (.iconst 1, 1) := by decide +kernel
theorem dX4_restore_3 : decode cX4_restore 3 = .ok (.invokestatic 20, 3) := by decide +kernel
theorem dX4_restore_6 : decode cX4_restore 6 = .ok (.ifCond .ne 6, 3) := by decide +kernel
theorem dX4_restore_9 : decode cX4_restore 9 = .ok (.bipush (-2), 2) := by decide +kernel
theorem dX4_restore_11 : decode cX4_restore 11 = .ok (.ireturn, 1) := by decide +kernel
theorem dX4_restore_12 : decode cX4_restore 12 = .ok (.aload_n 0, 1) := by decide +kernel
theorem dX4_restore_13 : decode cX4_restore 13 = .ok (.getfield 16, 3) := by decide +kernel
theorem dX4_restore_16 : decode cX4_restore 16 = .ok (.iload_n 1, 1) := by decide +kernel
theorem dX4_restore_17 : decode cX4_restore 17 = .ok (.baload, 1) := by decide +kernel
theorem dX4_restore_18 : decode cX4_restore 18 = .ok (.ifCond .ne 6, 3) := by decide +kernel
theorem dX4_restore_21 : decode cX4_restore 21 = .ok (.bipush (-3), 2) := by decide +kernel
theorem dX4_restore_23 : decode cX4_restore 23 = .ok (.ireturn, 1) := by decide +kernel
theorem dX4_restore_24 : decode cX4_restore 24 = .ok (.iconst 0, 1) := by decide +kernel
theorem dX4_restore_25 : decode cX4_restore 25 = .ok (.istore_n 2, 1) := by decide +kernel
theorem dX4_restore_26 : decode cX4_restore 26 = .ok (.iload_n 2, 1) := by decide +kernel
theorem dX4_restore_27 : decode cX4_restore 27 = .ok (.sipush 503, 3) := by decide +kernel
theorem dX4_restore_30 : decode cX4_restore 30 = .ok (.if_icmp .ge 27, 3) := by decide +kernel
theorem dX4_restore_33 : decode cX4_restore 33 = .ok (.aload_n 0, 1) := by decide +kernel
theorem dX4_restore_34 : decode cX4_restore 34 = .ok (.getfield 7, 3) := by decide +kernel
theorem dX4_restore_37 : decode cX4_restore 37 = .ok (.iload_n 2, 1) := by decide +kernel
theorem dX4_restore_38 : decode cX4_restore 38 = .ok (.aload_n 0, 1) := by decide +kernel
theorem dX4_restore_39 : decode cX4_restore 39 = .ok (.getfield 13, 3) := by decide +kernel
theorem dX4_restore_42 : decode cX4_restore 42 = .ok (.sipush 503, 3) := by decide +kernel
theorem dX4_restore_45 : decode cX4_restore 45 = .ok (.iload_n 1, 1) := by decide +kernel
theorem dX4_restore_46 : decode cX4_restore 46 = .ok (.imul, 1) := by decide +kernel
theorem dX4_restore_47 : decode cX4_restore 47 = .ok (.iload_n 2, 1) := by decide +kernel
theorem dX4_restore_48 : decode cX4_restore 48 = .ok (.iadd, 1) := by decide +kernel
theorem dX4_restore_49 : decode cX4_restore 49 = .ok (.iaload, 1) := by decide +kernel
theorem dX4_restore_50 : decode cX4_restore 50 = .ok (.iastore, 1) := by decide +kernel
theorem dX4_restore_51 : decode cX4_restore 51 = .ok (.iinc 2 1, 3) := by decide +kernel
theorem dX4_restore_54 : decode cX4_restore 54 = .ok (.goto (-28), 3) := by decide +kernel
theorem dX4_restore_57 : decode cX4_restore 57 = .ok (.iconst 1, 1) := by decide +kernel
theorem dX4_restore_58 : decode cX4_restore 58 = .ok (.ireturn, 1) := by decide +kernel
theorem dX4_knownMany_0 : decode cX4_knownMany 0 = .ok (.iconst 0, 1) := by decide +kernel
theorem dX4_knownMany_1 : decode cX4_knownMany 1 = .ok (.istore_n 1, 1) := by decide +kernel
theorem dX4_knownMany_2 : decode cX4_knownMany 2 = .ok (.iconst 0, 1) := by decide +kernel
theorem dX4_knownMany_3 : decode cX4_knownMany 3 = .ok (.istore_n 2, 1) := by decide +kernel
theorem dX4_knownMany_4 : decode cX4_knownMany 4 = .ok (.iload_n 2, 1) := by decide +kernel
theorem dX4_knownMany_5 : decode cX4_knownMany 5 = .ok (.bipush 32, 2) := by decide +kernel
theorem dX4_knownMany_7 : decode cX4_knownMany 7 = .ok (.if_icmp .ge 25, 3) := by decide +kernel
theorem dX4_knownMany_10 : decode cX4_knownMany 10 = .ok (.iload_n 1, 1) := by decide +kernel
theorem dX4_knownMany_11 : decode cX4_knownMany 11 = .ok (.aload_n 0, 1) := by decide +kernel
theorem dX4_knownMany_12 : decode cX4_knownMany 12 = .ok (.iload_n 2, 1) := by decide +kernel
theorem dX4_knownMany_13 : decode cX4_knownMany 13 = .ok (.invokevirtual 106, 3) := by decide +kernel
theorem dX4_knownMany_16 : decode cX4_knownMany 16 = .ok (.ifCond .eq 7, 3) := by decide +kernel
theorem dX4_knownMany_19 : decode cX4_knownMany 19 = .ok (.iconst 1, 1) := by decide +kernel
theorem dX4_knownMany_20 : decode cX4_knownMany 20 = .ok (.goto 4, 3) := by decide +kernel
theorem dX4_knownMany_23 : decode cX4_knownMany 23 = .ok (.iconst 0, 1) := by decide +kernel
theorem dX4_knownMany_24 : decode cX4_knownMany 24 = .ok (.iadd, 1) := by decide +kernel
theorem dX4_knownMany_25 : decode cX4_knownMany 25 = .ok (.istore_n 1, 1) := by decide +kernel
theorem dX4_knownMany_26 : decode cX4_knownMany 26 = .ok (.iinc 2 1, 3) := by decide +kernel
theorem dX4_knownMany_29 : decode cX4_knownMany 29 = .ok (.goto (-25), 3) := by decide +kernel
theorem dX4_knownMany_32 : decode cX4_knownMany 32 = .ok (.iload_n 1, 1) := by decide +kernel
theorem dX4_knownMany_33 : decode cX4_knownMany 33 = .ok (.ireturn, 1) := by decide +kernel
theorem dX4_lentMany_0 : decode cX4_lentMany 0 = .ok (.iconst 0, 1) := by decide +kernel
theorem dX4_lentMany_1 : decode cX4_lentMany 1 = .ok (.istore_n 1, 1) := by decide +kernel
theorem dX4_lentMany_2 : decode cX4_lentMany 2 = .ok (.iconst 0, 1) := by decide +kernel
theorem dX4_lentMany_3 : decode cX4_lentMany 3 = .ok (.istore_n 2, 1) := by decide +kernel
theorem dX4_lentMany_4 : decode cX4_lentMany 4 = .ok (.iload_n 2, 1) := by decide +kernel
theorem dX4_lentMany_5 : decode cX4_lentMany 5 = .ok (.bipush 16, 2) := by decide +kernel
theorem dX4_lentMany_7 : decode cX4_lentMany 7 = .ok (.if_icmp .ge 25, 3) := by decide +kernel
theorem dX4_lentMany_10 : decode cX4_lentMany 10 = .ok (.iload_n 1, 1) := by decide +kernel
theorem dX4_lentMany_11 : decode cX4_lentMany 11 = .ok (.aload_n 0, 1) := by decide +kernel
theorem dX4_lentMany_12 : decode cX4_lentMany 12 = .ok (.iload_n 2, 1) := by decide +kernel
theorem dX4_lentMany_13 : decode cX4_lentMany 13 = .ok (.invokevirtual 24, 3) := by decide +kernel
theorem dX4_lentMany_16 : decode cX4_lentMany 16 = .ok (.ifCond .eq 7, 3) := by decide +kernel
theorem dX4_lentMany_19 : decode cX4_lentMany 19 = .ok (.iconst 1, 1) := by decide +kernel
theorem dX4_lentMany_20 : decode cX4_lentMany 20 = .ok (.goto 4, 3) := by decide +kernel
theorem dX4_lentMany_23 : decode cX4_lentMany 23 = .ok (.iconst 0, 1) := by decide +kernel
theorem dX4_lentMany_24 : decode cX4_lentMany 24 = .ok (.iadd, 1) := by decide +kernel
theorem dX4_lentMany_25 : decode cX4_lentMany 25 = .ok (.istore_n 1, 1) := by decide +kernel
theorem dX4_lentMany_26 : decode cX4_lentMany 26 = .ok (.iinc 2 1, 3) := by decide +kernel
theorem dX4_lentMany_29 : decode cX4_lentMany 29 = .ok (.goto (-25), 3) := by decide +kernel
theorem dX4_lentMany_32 : decode cX4_lentMany 32 = .ok (.iload_n 1, 1) := by decide +kernel
theorem dX4_lentMany_33 : decode cX4_lentMany 33 = .ok (.ireturn, 1) := by decide +kernel
theorem dX4_count_0 : decode cX4_count 0 = .ok (.iload_n 1, 1) := by decide +kernel
theorem dX4_count_1 : decode cX4_count 1 = .ok (.bipush 10, 2) := by decide +kernel
theorem dX4_count_3 : decode cX4_count 3 = .ok (.bipush 15, 2) := by decide +kernel
theorem dX4_count_5 : decode cX4_count 5 = .ok (.invokestatic 20, 3) := by decide +kernel
theorem dX4_count_8 : decode cX4_count 8 = .ok (.ifCond .eq 13, 3) := by decide +kernel
theorem dX4_count_11 : decode cX4_count 11 = .ok (.aload_n 0, 1) := by decide +kernel
theorem dX4_count_12 : decode cX4_count 12 = .ok (.getfield 7, 3) := by decide +kernel
theorem dX4_count_15 : decode cX4_count 15 = .ok (.iload_n 1, 1) := by decide +kernel
theorem dX4_count_16 : decode cX4_count 16 = .ok (.bipush 10, 2) := by decide +kernel
theorem dX4_count_18 : decode cX4_count 18 = .ok (.isub, 1) := by decide +kernel
theorem dX4_count_19 : decode cX4_count 19 = .ok (.iaload, 1) := by decide +kernel
theorem dX4_count_20 : decode cX4_count 20 = .ok (.ireturn, 1) := by decide +kernel
theorem dX4_count_21 : decode cX4_count 21 = .ok (.iload_n 1, 1) := by decide +kernel
theorem dX4_count_22 : decode cX4_count 22 = .ok (.tableswitch 101 0 5 #[38, 43, 51, 61, 66, 71], 38) := by decide +kernel
theorem dX4_count_60 : decode cX4_count 60 = .ok (.aload_n 0, 1) := by decide +kernel
theorem dX4_count_61 : decode cX4_count 61 = .ok (.invokevirtual 130, 3) := by decide +kernel
theorem dX4_count_64 : decode cX4_count 64 = .ok (.ireturn, 1) := by decide +kernel
theorem dX4_count_65 : decode cX4_count 65 = .ok (.aload_n 0, 1) := by decide +kernel
theorem dX4_count_66 : decode cX4_count 66 = .ok (.getfield 7, 3) := by decide +kernel
theorem dX4_count_69 : decode cX4_count 69 = .ok (.bipush 6, 2) := by decide +kernel
theorem dX4_count_71 : decode cX4_count 71 = .ok (.iaload, 1) := by decide +kernel
theorem dX4_count_72 : decode cX4_count 72 = .ok (.ireturn, 1) := by decide +kernel
theorem dX4_count_73 : decode cX4_count 73 = .ok (.aload_n 0, 1) := by decide +kernel
theorem dX4_count_74 : decode cX4_count 74 = .ok (.bipush (-6), 2) := by decide +kernel
theorem dX4_count_76 : decode cX4_count 76 = .ok (.invokevirtual 124, 3) := by decide +kernel
theorem dX4_count_79 : decode cX4_count 79 = .ok (.invokestatic 133, 3) := by decide +kernel
theorem dX4_count_82 : decode cX4_count 82 = .ok (.ireturn, 1) := by decide +kernel
theorem dX4_count_83 : decode cX4_count 83 = .ok (.aload_n 0, 1) := by decide +kernel
theorem dX4_count_84 : decode cX4_count 84 = .ok (.invokevirtual 103, 3) := by decide +kernel
theorem dX4_count_87 : decode cX4_count 87 = .ok (.ireturn, 1) := by decide +kernel
theorem dX4_count_88 : decode cX4_count 88 = .ok (.aload_n 0, 1) := by decide +kernel
theorem dX4_count_89 : decode cX4_count 89 = .ok (.invokevirtual 136, 3) := by decide +kernel
theorem dX4_count_92 : decode cX4_count 92 = .ok (.ireturn, 1) := by decide +kernel
theorem dX4_count_93 : decode cX4_count 93 = .ok (.aload_n 0, 1) := by decide +kernel
theorem dX4_count_94 : decode cX4_count 94 = .ok (.getfield 16, 3) := by decide +kernel
theorem dX4_count_97 : decode cX4_count 97 = .ok (.iconst 0, 1) := by decide +kernel
theorem dX4_count_98 : decode cX4_count 98 = .ok (.baload, 1) := by decide +kernel
theorem dX4_count_99 : decode cX4_count 99 = .ok (.ifCond .eq 7, 3) := by decide +kernel
theorem dX4_count_102 : decode cX4_count 102 = .ok (.iconst 1, 1) := by decide +kernel
theorem dX4_count_103 : decode cX4_count 103 = .ok (.goto 4, 3) := by decide +kernel
theorem dX4_count_106 : decode cX4_count 106 = .ok (.iconst 0, 1) := by decide +kernel
theorem dX4_count_107 : decode cX4_count 107 = .ok (.aload_n 0, 1) := by decide +kernel
theorem dX4_count_108 : decode cX4_count 108 = .ok (.getfield 16, 3) := by decide +kernel
theorem dX4_count_111 : decode cX4_count 111 = .ok (.iconst 1, 1) := by decide +kernel
theorem dX4_count_112 : decode cX4_count 112 = .ok (.baload, 1) := by decide +kernel
theorem dX4_count_113 : decode cX4_count 113 = .ok (.ifCond .eq 7, 3) := by decide +kernel
theorem dX4_count_116 : decode cX4_count 116 = .ok (.iconst 2, 1) := by decide +kernel
theorem dX4_count_117 : decode cX4_count 117 = .ok (.goto 4, 3) := by decide +kernel
theorem dX4_count_120 : decode cX4_count 120 = .ok (.iconst 0, 1) := by decide +kernel
theorem dX4_count_121 : decode cX4_count 121 = .ok (.iadd, 1) := by decide +kernel
theorem dX4_count_122 : decode cX4_count 122 = .ok (.ireturn, 1) := by decide +kernel
theorem dX4_count_123 : decode cX4_count 123 = .ok (.bipush (-2), 2) := by decide +kernel
theorem dX4_count_125 : decode cX4_count 125 = .ok (.ireturn, 1) := by decide +kernel
theorem dX4_bits_0 : decode cX4_bits 0 = .ok (.iconst 0, 1) := by decide +kernel
theorem dX4_bits_1 : decode cX4_bits 1 = .ok (.istore_n 1, 1) := by decide +kernel
theorem dX4_bits_2 : decode cX4_bits 2 = .ok (.iconst 0, 1) := by decide +kernel
theorem dX4_bits_3 : decode cX4_bits 3 = .ok (.istore_n 2, 1) := by decide +kernel
theorem dX4_bits_4 : decode cX4_bits 4 = .ok (.iload_n 2, 1) := by decide +kernel
theorem dX4_bits_5 : decode cX4_bits 5 = .ok (.iconst 4, 1) := by decide +kernel
theorem dX4_bits_6 : decode cX4_bits 6 = .ok (.if_icmp .ge 17, 3) := by decide +kernel
theorem dX4_bits_9 : decode cX4_bits 9 = .ok (.iload_n 1, 1) := by decide +kernel
theorem dX4_bits_10 : decode cX4_bits 10 = .ok (.iload_n 0, 1) := by decide +kernel
theorem dX4_bits_11 : decode cX4_bits 11 = .ok (.iload_n 2, 1) := by decide +kernel
theorem dX4_bits_12 : decode cX4_bits 12 = .ok (.ishr, 1) := by decide +kernel
theorem dX4_bits_13 : decode cX4_bits 13 = .ok (.iconst 1, 1) := by decide +kernel
theorem dX4_bits_14 : decode cX4_bits 14 = .ok (.iand, 1) := by decide +kernel
theorem dX4_bits_15 : decode cX4_bits 15 = .ok (.iadd, 1) := by decide +kernel
theorem dX4_bits_16 : decode cX4_bits 16 = .ok (.istore_n 1, 1) := by decide +kernel
theorem dX4_bits_17 : decode cX4_bits 17 = .ok (.iinc 2 1, 3) := by decide +kernel
theorem dX4_bits_20 : decode cX4_bits 20 = .ok (.goto (-16), 3) := by decide +kernel
theorem dX4_bits_23 : decode cX4_bits 23 = .ok (.iload_n 1, 1) := by decide +kernel
theorem dX4_bits_24 : decode cX4_bits 24 = .ok (.ireturn, 1) := by decide +kernel
end
section
theorem dL_law_0 : decode cL_law 0 = .ok (.new 7, 3) := by decide +kernel
theorem dL_law_3 : decode cL_law 3 = .ok (.dup, 1) := by decide +kernel
theorem dL_law_4 : decode cL_law 4 = .ok (.invokespecial 9, 3) := by decide +kernel
theorem dL_law_7 : decode cL_law 7 = .ok (.astore_n 1, 1) := by decide +kernel
theorem dL_law_8 : decode cL_law 8 = .ok (.new 10, 3) := by decide +kernel
theorem dL_law_11 : decode cL_law 11 = .ok (.dup, 1) := by decide +kernel
theorem dL_law_12 : decode cL_law 12 = .ok (.invokespecial 12, 3) := by decide +kernel
theorem dL_law_15 : decode cL_law 15 = .ok (.astore_n 2, 1) := by decide +kernel
theorem dL_law_16 : decode cL_law 16 = .ok (.iconst 0, 1) := by decide +kernel
theorem dL_law_17 : decode cL_law 17 = .ok (.istore_n 3, 1) := by decide +kernel
theorem dL_law_18 : decode cL_law 18 = .ok (.iload_n 3, 1) := by decide +kernel
theorem dL_law_19 : decode cL_law 19 = .ok (.aload_n 0, 1) := by decide +kernel
theorem dL_law_20 : decode cL_law 20 = .ok (.arraylength, 1) := by decide +kernel
theorem dL_law_21 : decode cL_law 21 = .ok (.bipush 6, 2) := by decide +kernel
theorem dL_law_23 : decode cL_law 23 = .ok (.isub, 1) := by decide +kernel
theorem dL_law_24 : decode cL_law 24 = .ok (.if_icmp .gt 756, 3) := by decide +kernel
theorem dL_law_27 : decode cL_law 27 = .ok (.aload_n 0, 1) := by decide +kernel
theorem dL_law_28 : decode cL_law 28 = .ok (.iload_n 3, 1) := by decide +kernel
theorem dL_law_29 : decode cL_law 29 = .ok (.iaload, 1) := by decide +kernel
theorem dL_law_30 : decode cL_law 30 = .ok (.bipush 31, 2) := by decide +kernel
theorem dL_law_32 : decode cL_law 32 = .ok (.iand, 1) := by decide +kernel
theorem dL_law_33 : decode cL_law 33 = .ok (.tableswitch 741 0 17 #[87, 120, 183, 236, 289, 352, 375, 398, 431, 474, 527, 560, 603, 626, 659, 672, 695, 718], 87) := by decide +kernel
theorem dL_law_120 : decode cL_law 120 = .ok (.aload_n 1, 1) := by decide +kernel
theorem dL_law_121 : decode cL_law 121 = .ok (.aload_n 0, 1) := by decide +kernel
theorem dL_law_122 : decode cL_law 122 = .ok (.iload_n 3, 1) := by decide +kernel
theorem dL_law_123 : decode cL_law 123 = .ok (.iconst 1, 1) := by decide +kernel
theorem dL_law_124 : decode cL_law 124 = .ok (.iadd, 1) := by decide +kernel
theorem dL_law_125 : decode cL_law 125 = .ok (.iaload, 1) := by decide +kernel
theorem dL_law_126 : decode cL_law 126 = .ok (.aload_n 0, 1) := by decide +kernel
theorem dL_law_127 : decode cL_law 127 = .ok (.iload_n 3, 1) := by decide +kernel
theorem dL_law_128 : decode cL_law 128 = .ok (.iconst 2, 1) := by decide +kernel
theorem dL_law_129 : decode cL_law 129 = .ok (.iadd, 1) := by decide +kernel
theorem dL_law_130 : decode cL_law 130 = .ok (.iaload, 1) := by decide +kernel
theorem dL_law_131 : decode cL_law 131 = .ok (.invokevirtual 13, 3) := by decide +kernel
theorem dL_law_134 : decode cL_law 134 = .ok (.aload_n 2, 1) := by decide +kernel
theorem dL_law_135 : decode cL_law 135 = .ok (.aload_n 0, 1) := by decide +kernel
theorem dL_law_136 : decode cL_law 136 = .ok (.iload_n 3, 1) := by decide +kernel
theorem dL_law_137 : decode cL_law 137 = .ok (.iconst 1, 1) := by decide +kernel
theorem dL_law_138 : decode cL_law 138 = .ok (.iadd, 1) := by decide +kernel
theorem dL_law_139 : decode cL_law 139 = .ok (.iaload, 1) := by decide +kernel
theorem dL_law_140 : decode cL_law 140 = .ok (.aload_n 0, 1) := by decide +kernel
theorem dL_law_141 : decode cL_law 141 = .ok (.iload_n 3, 1) := by decide +kernel
theorem dL_law_142 : decode cL_law 142 = .ok (.iconst 2, 1) := by decide +kernel
theorem dL_law_143 : decode cL_law 143 = .ok (.iadd, 1) := by decide +kernel
theorem dL_law_144 : decode cL_law 144 = .ok (.iaload, 1) := by decide +kernel
theorem dL_law_145 : decode cL_law 145 = .ok (.invokevirtual 17, 3) := by decide +kernel
theorem dL_law_148 : decode cL_law 148 = .ok (.if_icmp .eq 626, 3) := by decide +kernel
theorem dL_law_151 : decode cL_law 151 = .ok (.iconst 0, 1) := by decide +kernel
theorem dL_law_152 : decode cL_law 152 = .ok (.ireturn, 1) := by decide +kernel
theorem dL_law_153 : decode cL_law 153 = .ok (.aload_n 1, 1) := by decide +kernel
theorem dL_law_154 : decode cL_law 154 = .ok (.aload_n 0, 1) := by decide +kernel
theorem dL_law_155 : decode cL_law 155 = .ok (.iload_n 3, 1) := by decide +kernel
theorem dL_law_156 : decode cL_law 156 = .ok (.iconst 1, 1) := by decide +kernel
theorem dL_law_157 : decode cL_law 157 = .ok (.iadd, 1) := by decide +kernel
theorem dL_law_158 : decode cL_law 158 = .ok (.iaload, 1) := by decide +kernel
theorem dL_law_159 : decode cL_law 159 = .ok (.aload_n 0, 1) := by decide +kernel
theorem dL_law_160 : decode cL_law 160 = .ok (.iload_n 3, 1) := by decide +kernel
theorem dL_law_161 : decode cL_law 161 = .ok (.iconst 2, 1) := by decide +kernel
theorem dL_law_162 : decode cL_law 162 = .ok (.iadd, 1) := by decide +kernel
theorem dL_law_163 : decode cL_law 163 = .ok (.iaload, 1) := by decide +kernel
theorem dL_law_164 : decode cL_law 164 = .ok (.aload_n 0, 1) := by decide +kernel
theorem dL_law_165 : decode cL_law 165 = .ok (.iload_n 3, 1) := by decide +kernel
theorem dL_law_166 : decode cL_law 166 = .ok (.iconst 3, 1) := by decide +kernel
theorem dL_law_167 : decode cL_law 167 = .ok (.iadd, 1) := by decide +kernel
theorem dL_law_168 : decode cL_law 168 = .ok (.iaload, 1) := by decide +kernel
theorem dL_law_169 : decode cL_law 169 = .ok (.aload_n 0, 1) := by decide +kernel
theorem dL_law_170 : decode cL_law 170 = .ok (.iload_n 3, 1) := by decide +kernel
theorem dL_law_171 : decode cL_law 171 = .ok (.iconst 4, 1) := by decide +kernel
theorem dL_law_172 : decode cL_law 172 = .ok (.iadd, 1) := by decide +kernel
theorem dL_law_173 : decode cL_law 173 = .ok (.iaload, 1) := by decide +kernel
theorem dL_law_174 : decode cL_law 174 = .ok (.aload_n 0, 1) := by decide +kernel
theorem dL_law_175 : decode cL_law 175 = .ok (.iload_n 3, 1) := by decide +kernel
theorem dL_law_176 : decode cL_law 176 = .ok (.iconst 5, 1) := by decide +kernel
theorem dL_law_177 : decode cL_law 177 = .ok (.iadd, 1) := by decide +kernel
theorem dL_law_178 : decode cL_law 178 = .ok (.iaload, 1) := by decide +kernel
theorem dL_law_179 : decode cL_law 179 = .ok (.invokevirtual 18, 3) := by decide +kernel
theorem dL_law_182 : decode cL_law 182 = .ok (.aload_n 2, 1) := by decide +kernel
theorem dL_law_183 : decode cL_law 183 = .ok (.aload_n 0, 1) := by decide +kernel
theorem dL_law_184 : decode cL_law 184 = .ok (.iload_n 3, 1) := by decide +kernel
theorem dL_law_185 : decode cL_law 185 = .ok (.iconst 1, 1) := by decide +kernel
theorem dL_law_186 : decode cL_law 186 = .ok (.iadd, 1) := by decide +kernel
theorem dL_law_187 : decode cL_law 187 = .ok (.iaload, 1) := by decide +kernel
theorem dL_law_188 : decode cL_law 188 = .ok (.aload_n 0, 1) := by decide +kernel
theorem dL_law_189 : decode cL_law 189 = .ok (.iload_n 3, 1) := by decide +kernel
theorem dL_law_190 : decode cL_law 190 = .ok (.iconst 2, 1) := by decide +kernel
theorem dL_law_191 : decode cL_law 191 = .ok (.iadd, 1) := by decide +kernel
theorem dL_law_192 : decode cL_law 192 = .ok (.iaload, 1) := by decide +kernel
theorem dL_law_193 : decode cL_law 193 = .ok (.aload_n 0, 1) := by decide +kernel
theorem dL_law_194 : decode cL_law 194 = .ok (.iload_n 3, 1) := by decide +kernel
theorem dL_law_195 : decode cL_law 195 = .ok (.iconst 3, 1) := by decide +kernel
theorem dL_law_196 : decode cL_law 196 = .ok (.iadd, 1) := by decide +kernel
theorem dL_law_197 : decode cL_law 197 = .ok (.iaload, 1) := by decide +kernel
theorem dL_law_198 : decode cL_law 198 = .ok (.aload_n 0, 1) := by decide +kernel
theorem dL_law_199 : decode cL_law 199 = .ok (.iload_n 3, 1) := by decide +kernel
theorem dL_law_200 : decode cL_law 200 = .ok (.iconst 4, 1) := by decide +kernel
theorem dL_law_201 : decode cL_law 201 = .ok (.iadd, 1) := by decide +kernel
theorem dL_law_202 : decode cL_law 202 = .ok (.iaload, 1) := by decide +kernel
theorem dL_law_203 : decode cL_law 203 = .ok (.aload_n 0, 1) := by decide +kernel
theorem dL_law_204 : decode cL_law 204 = .ok (.iload_n 3, 1) := by decide +kernel
theorem dL_law_205 : decode cL_law 205 = .ok (.iconst 5, 1) := by decide +kernel
theorem dL_law_206 : decode cL_law 206 = .ok (.iadd, 1) := by decide +kernel
theorem dL_law_207 : decode cL_law 207 = .ok (.iaload, 1) := by decide +kernel
theorem dL_law_208 : decode cL_law 208 = .ok (.invokevirtual 22, 3) := by decide +kernel
theorem dL_law_211 : decode cL_law 211 = .ok (.if_icmp .eq 563, 3) := by decide +kernel
theorem dL_law_214 : decode cL_law 214 = .ok (.iconst 0, 1) := by decide +kernel
theorem dL_law_215 : decode cL_law 215 = .ok (.ireturn, 1) := by decide +kernel
theorem dL_law_216 : decode cL_law 216 = .ok (.aload_n 1, 1) := by decide +kernel
theorem dL_law_217 : decode cL_law 217 = .ok (.aload_n 0, 1) := by decide +kernel
theorem dL_law_218 : decode cL_law 218 = .ok (.iload_n 3, 1) := by decide +kernel
theorem dL_law_219 : decode cL_law 219 = .ok (.iconst 1, 1) := by decide +kernel
theorem dL_law_220 : decode cL_law 220 = .ok (.iadd, 1) := by decide +kernel
theorem dL_law_221 : decode cL_law 221 = .ok (.iaload, 1) := by decide +kernel
theorem dL_law_222 : decode cL_law 222 = .ok (.aload_n 0, 1) := by decide +kernel
theorem dL_law_223 : decode cL_law 223 = .ok (.iload_n 3, 1) := by decide +kernel
theorem dL_law_224 : decode cL_law 224 = .ok (.iconst 2, 1) := by decide +kernel
theorem dL_law_225 : decode cL_law 225 = .ok (.iadd, 1) := by decide +kernel
theorem dL_law_226 : decode cL_law 226 = .ok (.iaload, 1) := by decide +kernel
theorem dL_law_227 : decode cL_law 227 = .ok (.aload_n 0, 1) := by decide +kernel
theorem dL_law_228 : decode cL_law 228 = .ok (.iload_n 3, 1) := by decide +kernel
theorem dL_law_229 : decode cL_law 229 = .ok (.iconst 3, 1) := by decide +kernel
theorem dL_law_230 : decode cL_law 230 = .ok (.iadd, 1) := by decide +kernel
theorem dL_law_231 : decode cL_law 231 = .ok (.iaload, 1) := by decide +kernel
theorem dL_law_232 : decode cL_law 232 = .ok (.aload_n 0, 1) := by decide +kernel
theorem dL_law_233 : decode cL_law 233 = .ok (.iload_n 3, 1) := by decide +kernel
theorem dL_law_234 : decode cL_law 234 = .ok (.iconst 4, 1) := by decide +kernel
theorem dL_law_235 : decode cL_law 235 = .ok (.iadd, 1) := by decide +kernel
theorem dL_law_236 : decode cL_law 236 = .ok (.iaload, 1) := by decide +kernel
theorem dL_law_237 : decode cL_law 237 = .ok (.invokevirtual 23, 3) := by decide +kernel
theorem dL_law_240 : decode cL_law 240 = .ok (.aload_n 2, 1) := by decide +kernel
theorem dL_law_241 : decode cL_law 241 = .ok (.aload_n 0, 1) := by decide +kernel
theorem dL_law_242 : decode cL_law 242 = .ok (.iload_n 3, 1) := by decide +kernel
theorem dL_law_243 : decode cL_law 243 = .ok (.iconst 1, 1) := by decide +kernel
theorem dL_law_244 : decode cL_law 244 = .ok (.iadd, 1) := by decide +kernel
theorem dL_law_245 : decode cL_law 245 = .ok (.iaload, 1) := by decide +kernel
theorem dL_law_246 : decode cL_law 246 = .ok (.aload_n 0, 1) := by decide +kernel
theorem dL_law_247 : decode cL_law 247 = .ok (.iload_n 3, 1) := by decide +kernel
theorem dL_law_248 : decode cL_law 248 = .ok (.iconst 2, 1) := by decide +kernel
theorem dL_law_249 : decode cL_law 249 = .ok (.iadd, 1) := by decide +kernel
theorem dL_law_250 : decode cL_law 250 = .ok (.iaload, 1) := by decide +kernel
theorem dL_law_251 : decode cL_law 251 = .ok (.aload_n 0, 1) := by decide +kernel
theorem dL_law_252 : decode cL_law 252 = .ok (.iload_n 3, 1) := by decide +kernel
theorem dL_law_253 : decode cL_law 253 = .ok (.iconst 3, 1) := by decide +kernel
theorem dL_law_254 : decode cL_law 254 = .ok (.iadd, 1) := by decide +kernel
theorem dL_law_255 : decode cL_law 255 = .ok (.iaload, 1) := by decide +kernel
theorem dL_law_256 : decode cL_law 256 = .ok (.aload_n 0, 1) := by decide +kernel
theorem dL_law_257 : decode cL_law 257 = .ok (.iload_n 3, 1) := by decide +kernel
theorem dL_law_258 : decode cL_law 258 = .ok (.iconst 4, 1) := by decide +kernel
theorem dL_law_259 : decode cL_law 259 = .ok (.iadd, 1) := by decide +kernel
theorem dL_law_260 : decode cL_law 260 = .ok (.iaload, 1) := by decide +kernel
theorem dL_law_261 : decode cL_law 261 = .ok (.invokevirtual 27, 3) := by decide +kernel
theorem dL_law_264 : decode cL_law 264 = .ok (.if_icmp .eq 510, 3) := by decide +kernel
theorem dL_law_267 : decode cL_law 267 = .ok (.iconst 0, 1) := by decide +kernel
theorem dL_law_268 : decode cL_law 268 = .ok (.ireturn, 1) := by decide +kernel
theorem dL_law_269 : decode cL_law 269 = .ok (.aload_n 1, 1) := by decide +kernel
theorem dL_law_270 : decode cL_law 270 = .ok (.aload_n 0, 1) := by decide +kernel
theorem dL_law_271 : decode cL_law 271 = .ok (.iload_n 3, 1) := by decide +kernel
theorem dL_law_272 : decode cL_law 272 = .ok (.iconst 1, 1) := by decide +kernel
theorem dL_law_273 : decode cL_law 273 = .ok (.iadd, 1) := by decide +kernel
theorem dL_law_274 : decode cL_law 274 = .ok (.iaload, 1) := by decide +kernel
theorem dL_law_275 : decode cL_law 275 = .ok (.aload_n 0, 1) := by decide +kernel
theorem dL_law_276 : decode cL_law 276 = .ok (.iload_n 3, 1) := by decide +kernel
theorem dL_law_277 : decode cL_law 277 = .ok (.iconst 2, 1) := by decide +kernel
theorem dL_law_278 : decode cL_law 278 = .ok (.iadd, 1) := by decide +kernel
theorem dL_law_279 : decode cL_law 279 = .ok (.iaload, 1) := by decide +kernel
theorem dL_law_280 : decode cL_law 280 = .ok (.aload_n 0, 1) := by decide +kernel
theorem dL_law_281 : decode cL_law 281 = .ok (.iload_n 3, 1) := by decide +kernel
theorem dL_law_282 : decode cL_law 282 = .ok (.iconst 3, 1) := by decide +kernel
theorem dL_law_283 : decode cL_law 283 = .ok (.iadd, 1) := by decide +kernel
theorem dL_law_284 : decode cL_law 284 = .ok (.iaload, 1) := by decide +kernel
theorem dL_law_285 : decode cL_law 285 = .ok (.aload_n 0, 1) := by decide +kernel
theorem dL_law_286 : decode cL_law 286 = .ok (.iload_n 3, 1) := by decide +kernel
theorem dL_law_287 : decode cL_law 287 = .ok (.iconst 4, 1) := by decide +kernel
theorem dL_law_288 : decode cL_law 288 = .ok (.iadd, 1) := by decide +kernel
theorem dL_law_289 : decode cL_law 289 = .ok (.iaload, 1) := by decide +kernel
theorem dL_law_290 : decode cL_law 290 = .ok (.invokevirtual 28, 3) := by decide +kernel
theorem dL_law_293 : decode cL_law 293 = .ok (.aload_n 2, 1) := by decide +kernel
theorem dL_law_294 : decode cL_law 294 = .ok (.aload_n 0, 1) := by decide +kernel
theorem dL_law_295 : decode cL_law 295 = .ok (.iload_n 3, 1) := by decide +kernel
theorem dL_law_296 : decode cL_law 296 = .ok (.iconst 1, 1) := by decide +kernel
theorem dL_law_297 : decode cL_law 297 = .ok (.iadd, 1) := by decide +kernel
theorem dL_law_298 : decode cL_law 298 = .ok (.iaload, 1) := by decide +kernel
theorem dL_law_299 : decode cL_law 299 = .ok (.aload_n 0, 1) := by decide +kernel
theorem dL_law_300 : decode cL_law 300 = .ok (.iload_n 3, 1) := by decide +kernel
theorem dL_law_301 : decode cL_law 301 = .ok (.iconst 2, 1) := by decide +kernel
theorem dL_law_302 : decode cL_law 302 = .ok (.iadd, 1) := by decide +kernel
theorem dL_law_303 : decode cL_law 303 = .ok (.iaload, 1) := by decide +kernel
theorem dL_law_304 : decode cL_law 304 = .ok (.aload_n 0, 1) := by decide +kernel
theorem dL_law_305 : decode cL_law 305 = .ok (.iload_n 3, 1) := by decide +kernel
theorem dL_law_306 : decode cL_law 306 = .ok (.iconst 3, 1) := by decide +kernel
theorem dL_law_307 : decode cL_law 307 = .ok (.iadd, 1) := by decide +kernel
theorem dL_law_308 : decode cL_law 308 = .ok (.iaload, 1) := by decide +kernel
theorem dL_law_309 : decode cL_law 309 = .ok (.aload_n 0, 1) := by decide +kernel
theorem dL_law_310 : decode cL_law 310 = .ok (.iload_n 3, 1) := by decide +kernel
theorem dL_law_311 : decode cL_law 311 = .ok (.iconst 4, 1) := by decide +kernel
theorem dL_law_312 : decode cL_law 312 = .ok (.iadd, 1) := by decide +kernel
theorem dL_law_313 : decode cL_law 313 = .ok (.iaload, 1) := by decide +kernel
theorem dL_law_314 : decode cL_law 314 = .ok (.invokevirtual 31, 3) := by decide +kernel
theorem dL_law_317 : decode cL_law 317 = .ok (.if_icmp .eq 457, 3) := by decide +kernel
theorem dL_law_320 : decode cL_law 320 = .ok (.iconst 0, 1) := by decide +kernel
theorem dL_law_321 : decode cL_law 321 = .ok (.ireturn, 1) := by decide +kernel
theorem dL_law_322 : decode cL_law 322 = .ok (.aload_n 1, 1) := by decide +kernel
theorem dL_law_323 : decode cL_law 323 = .ok (.aload_n 0, 1) := by decide +kernel
theorem dL_law_324 : decode cL_law 324 = .ok (.iload_n 3, 1) := by decide +kernel
theorem dL_law_325 : decode cL_law 325 = .ok (.iconst 1, 1) := by decide +kernel
theorem dL_law_326 : decode cL_law 326 = .ok (.iadd, 1) := by decide +kernel
theorem dL_law_327 : decode cL_law 327 = .ok (.iaload, 1) := by decide +kernel
theorem dL_law_328 : decode cL_law 328 = .ok (.aload_n 0, 1) := by decide +kernel
theorem dL_law_329 : decode cL_law 329 = .ok (.iload_n 3, 1) := by decide +kernel
theorem dL_law_330 : decode cL_law 330 = .ok (.iconst 2, 1) := by decide +kernel
theorem dL_law_331 : decode cL_law 331 = .ok (.iadd, 1) := by decide +kernel
theorem dL_law_332 : decode cL_law 332 = .ok (.iaload, 1) := by decide +kernel
theorem dL_law_333 : decode cL_law 333 = .ok (.aload_n 0, 1) := by decide +kernel
theorem dL_law_334 : decode cL_law 334 = .ok (.iload_n 3, 1) := by decide +kernel
theorem dL_law_335 : decode cL_law 335 = .ok (.iconst 3, 1) := by decide +kernel
theorem dL_law_336 : decode cL_law 336 = .ok (.iadd, 1) := by decide +kernel
theorem dL_law_337 : decode cL_law 337 = .ok (.iaload, 1) := by decide +kernel
theorem dL_law_338 : decode cL_law 338 = .ok (.aload_n 0, 1) := by decide +kernel
theorem dL_law_339 : decode cL_law 339 = .ok (.iload_n 3, 1) := by decide +kernel
theorem dL_law_340 : decode cL_law 340 = .ok (.iconst 4, 1) := by decide +kernel
theorem dL_law_341 : decode cL_law 341 = .ok (.iadd, 1) := by decide +kernel
theorem dL_law_342 : decode cL_law 342 = .ok (.iaload, 1) := by decide +kernel
theorem dL_law_343 : decode cL_law 343 = .ok (.aload_n 0, 1) := by decide +kernel
theorem dL_law_344 : decode cL_law 344 = .ok (.iload_n 3, 1) := by decide +kernel
theorem dL_law_345 : decode cL_law 345 = .ok (.iconst 5, 1) := by decide +kernel
theorem dL_law_346 : decode cL_law 346 = .ok (.iadd, 1) := by decide +kernel
theorem dL_law_347 : decode cL_law 347 = .ok (.iaload, 1) := by decide +kernel
theorem dL_law_348 : decode cL_law 348 = .ok (.invokevirtual 32, 3) := by decide +kernel
theorem dL_law_351 : decode cL_law 351 = .ok (.aload_n 2, 1) := by decide +kernel
theorem dL_law_352 : decode cL_law 352 = .ok (.aload_n 0, 1) := by decide +kernel
theorem dL_law_353 : decode cL_law 353 = .ok (.iload_n 3, 1) := by decide +kernel
theorem dL_law_354 : decode cL_law 354 = .ok (.iconst 1, 1) := by decide +kernel
theorem dL_law_355 : decode cL_law 355 = .ok (.iadd, 1) := by decide +kernel
theorem dL_law_356 : decode cL_law 356 = .ok (.iaload, 1) := by decide +kernel
theorem dL_law_357 : decode cL_law 357 = .ok (.aload_n 0, 1) := by decide +kernel
theorem dL_law_358 : decode cL_law 358 = .ok (.iload_n 3, 1) := by decide +kernel
theorem dL_law_359 : decode cL_law 359 = .ok (.iconst 2, 1) := by decide +kernel
theorem dL_law_360 : decode cL_law 360 = .ok (.iadd, 1) := by decide +kernel
theorem dL_law_361 : decode cL_law 361 = .ok (.iaload, 1) := by decide +kernel
theorem dL_law_362 : decode cL_law 362 = .ok (.aload_n 0, 1) := by decide +kernel
theorem dL_law_363 : decode cL_law 363 = .ok (.iload_n 3, 1) := by decide +kernel
theorem dL_law_364 : decode cL_law 364 = .ok (.iconst 3, 1) := by decide +kernel
theorem dL_law_365 : decode cL_law 365 = .ok (.iadd, 1) := by decide +kernel
theorem dL_law_366 : decode cL_law 366 = .ok (.iaload, 1) := by decide +kernel
theorem dL_law_367 : decode cL_law 367 = .ok (.aload_n 0, 1) := by decide +kernel
theorem dL_law_368 : decode cL_law 368 = .ok (.iload_n 3, 1) := by decide +kernel
theorem dL_law_369 : decode cL_law 369 = .ok (.iconst 4, 1) := by decide +kernel
theorem dL_law_370 : decode cL_law 370 = .ok (.iadd, 1) := by decide +kernel
theorem dL_law_371 : decode cL_law 371 = .ok (.iaload, 1) := by decide +kernel
theorem dL_law_372 : decode cL_law 372 = .ok (.aload_n 0, 1) := by decide +kernel
theorem dL_law_373 : decode cL_law 373 = .ok (.iload_n 3, 1) := by decide +kernel
theorem dL_law_374 : decode cL_law 374 = .ok (.iconst 5, 1) := by decide +kernel
theorem dL_law_375 : decode cL_law 375 = .ok (.iadd, 1) := by decide +kernel
theorem dL_law_376 : decode cL_law 376 = .ok (.iaload, 1) := by decide +kernel
theorem dL_law_377 : decode cL_law 377 = .ok (.invokevirtual 35, 3) := by decide +kernel
theorem dL_law_380 : decode cL_law 380 = .ok (.if_icmp .eq 394, 3) := by decide +kernel
theorem dL_law_383 : decode cL_law 383 = .ok (.iconst 0, 1) := by decide +kernel
theorem dL_law_384 : decode cL_law 384 = .ok (.ireturn, 1) := by decide +kernel
theorem dL_law_385 : decode cL_law 385 = .ok (.aload_n 1, 1) := by decide +kernel
theorem dL_law_386 : decode cL_law 386 = .ok (.aload_n 0, 1) := by decide +kernel
theorem dL_law_387 : decode cL_law 387 = .ok (.iload_n 3, 1) := by decide +kernel
theorem dL_law_388 : decode cL_law 388 = .ok (.iconst 1, 1) := by decide +kernel
theorem dL_law_389 : decode cL_law 389 = .ok (.iadd, 1) := by decide +kernel
theorem dL_law_390 : decode cL_law 390 = .ok (.iaload, 1) := by decide +kernel
theorem dL_law_391 : decode cL_law 391 = .ok (.invokevirtual 36, 3) := by decide +kernel
theorem dL_law_394 : decode cL_law 394 = .ok (.aload_n 2, 1) := by decide +kernel
theorem dL_law_395 : decode cL_law 395 = .ok (.aload_n 0, 1) := by decide +kernel
theorem dL_law_396 : decode cL_law 396 = .ok (.iload_n 3, 1) := by decide +kernel
theorem dL_law_397 : decode cL_law 397 = .ok (.iconst 1, 1) := by decide +kernel
theorem dL_law_398 : decode cL_law 398 = .ok (.iadd, 1) := by decide +kernel
theorem dL_law_399 : decode cL_law 399 = .ok (.iaload, 1) := by decide +kernel
theorem dL_law_400 : decode cL_law 400 = .ok (.invokevirtual 40, 3) := by decide +kernel
theorem dL_law_403 : decode cL_law 403 = .ok (.if_icmp .eq 371, 3) := by decide +kernel
theorem dL_law_406 : decode cL_law 406 = .ok (.iconst 0, 1) := by decide +kernel
theorem dL_law_407 : decode cL_law 407 = .ok (.ireturn, 1) := by decide +kernel
theorem dL_law_408 : decode cL_law 408 = .ok (.aload_n 1, 1) := by decide +kernel
theorem dL_law_409 : decode cL_law 409 = .ok (.aload_n 0, 1) := by decide +kernel
theorem dL_law_410 : decode cL_law 410 = .ok (.iload_n 3, 1) := by decide +kernel
theorem dL_law_411 : decode cL_law 411 = .ok (.iconst 1, 1) := by decide +kernel
theorem dL_law_412 : decode cL_law 412 = .ok (.iadd, 1) := by decide +kernel
theorem dL_law_413 : decode cL_law 413 = .ok (.iaload, 1) := by decide +kernel
theorem dL_law_414 : decode cL_law 414 = .ok (.invokevirtual 41, 3) := by decide +kernel
theorem dL_law_417 : decode cL_law 417 = .ok (.aload_n 2, 1) := by decide +kernel
theorem dL_law_418 : decode cL_law 418 = .ok (.aload_n 0, 1) := by decide +kernel
theorem dL_law_419 : decode cL_law 419 = .ok (.iload_n 3, 1) := by decide +kernel
theorem dL_law_420 : decode cL_law 420 = .ok (.iconst 1, 1) := by decide +kernel
theorem dL_law_421 : decode cL_law 421 = .ok (.iadd, 1) := by decide +kernel
theorem dL_law_422 : decode cL_law 422 = .ok (.iaload, 1) := by decide +kernel
theorem dL_law_423 : decode cL_law 423 = .ok (.invokevirtual 44, 3) := by decide +kernel
theorem dL_law_426 : decode cL_law 426 = .ok (.if_icmp .eq 348, 3) := by decide +kernel
theorem dL_law_429 : decode cL_law 429 = .ok (.iconst 0, 1) := by decide +kernel
theorem dL_law_430 : decode cL_law 430 = .ok (.ireturn, 1) := by decide +kernel
theorem dL_law_431 : decode cL_law 431 = .ok (.aload_n 1, 1) := by decide +kernel
theorem dL_law_432 : decode cL_law 432 = .ok (.aload_n 0, 1) := by decide +kernel
theorem dL_law_433 : decode cL_law 433 = .ok (.iload_n 3, 1) := by decide +kernel
theorem dL_law_434 : decode cL_law 434 = .ok (.iconst 1, 1) := by decide +kernel
theorem dL_law_435 : decode cL_law 435 = .ok (.iadd, 1) := by decide +kernel
theorem dL_law_436 : decode cL_law 436 = .ok (.iaload, 1) := by decide +kernel
theorem dL_law_437 : decode cL_law 437 = .ok (.aload_n 0, 1) := by decide +kernel
theorem dL_law_438 : decode cL_law 438 = .ok (.iload_n 3, 1) := by decide +kernel
theorem dL_law_439 : decode cL_law 439 = .ok (.iconst 2, 1) := by decide +kernel
theorem dL_law_440 : decode cL_law 440 = .ok (.iadd, 1) := by decide +kernel
theorem dL_law_441 : decode cL_law 441 = .ok (.iaload, 1) := by decide +kernel
theorem dL_law_442 : decode cL_law 442 = .ok (.invokevirtual 45, 3) := by decide +kernel
theorem dL_law_445 : decode cL_law 445 = .ok (.aload_n 2, 1) := by decide +kernel
theorem dL_law_446 : decode cL_law 446 = .ok (.aload_n 0, 1) := by decide +kernel
theorem dL_law_447 : decode cL_law 447 = .ok (.iload_n 3, 1) := by decide +kernel
theorem dL_law_448 : decode cL_law 448 = .ok (.iconst 1, 1) := by decide +kernel
theorem dL_law_449 : decode cL_law 449 = .ok (.iadd, 1) := by decide +kernel
theorem dL_law_450 : decode cL_law 450 = .ok (.iaload, 1) := by decide +kernel
theorem dL_law_451 : decode cL_law 451 = .ok (.aload_n 0, 1) := by decide +kernel
theorem dL_law_452 : decode cL_law 452 = .ok (.iload_n 3, 1) := by decide +kernel
theorem dL_law_453 : decode cL_law 453 = .ok (.iconst 2, 1) := by decide +kernel
theorem dL_law_454 : decode cL_law 454 = .ok (.iadd, 1) := by decide +kernel
theorem dL_law_455 : decode cL_law 455 = .ok (.iaload, 1) := by decide +kernel
theorem dL_law_456 : decode cL_law 456 = .ok (.invokevirtual 48, 3) := by decide +kernel
theorem dL_law_459 : decode cL_law 459 = .ok (.if_icmp .eq 315, 3) := by decide +kernel
theorem dL_law_462 : decode cL_law 462 = .ok (.iconst 0, 1) := by decide +kernel
theorem dL_law_463 : decode cL_law 463 = .ok (.ireturn, 1) := by decide +kernel
theorem dL_law_464 : decode cL_law 464 = .ok (.aload_n 1, 1) := by decide +kernel
theorem dL_law_465 : decode cL_law 465 = .ok (.aload_n 0, 1) := by decide +kernel
theorem dL_law_466 : decode cL_law 466 = .ok (.iload_n 3, 1) := by decide +kernel
theorem dL_law_467 : decode cL_law 467 = .ok (.iconst 1, 1) := by decide +kernel
theorem dL_law_468 : decode cL_law 468 = .ok (.iadd, 1) := by decide +kernel
theorem dL_law_469 : decode cL_law 469 = .ok (.iaload, 1) := by decide +kernel
theorem dL_law_470 : decode cL_law 470 = .ok (.aload_n 0, 1) := by decide +kernel
theorem dL_law_471 : decode cL_law 471 = .ok (.iload_n 3, 1) := by decide +kernel
theorem dL_law_472 : decode cL_law 472 = .ok (.iconst 2, 1) := by decide +kernel
theorem dL_law_473 : decode cL_law 473 = .ok (.iadd, 1) := by decide +kernel
theorem dL_law_474 : decode cL_law 474 = .ok (.iaload, 1) := by decide +kernel
theorem dL_law_475 : decode cL_law 475 = .ok (.aload_n 0, 1) := by decide +kernel
theorem dL_law_476 : decode cL_law 476 = .ok (.iload_n 3, 1) := by decide +kernel
theorem dL_law_477 : decode cL_law 477 = .ok (.iconst 3, 1) := by decide +kernel
theorem dL_law_478 : decode cL_law 478 = .ok (.iadd, 1) := by decide +kernel
theorem dL_law_479 : decode cL_law 479 = .ok (.iaload, 1) := by decide +kernel
theorem dL_law_480 : decode cL_law 480 = .ok (.invokevirtual 49, 3) := by decide +kernel
theorem dL_law_483 : decode cL_law 483 = .ok (.aload_n 2, 1) := by decide +kernel
theorem dL_law_484 : decode cL_law 484 = .ok (.aload_n 0, 1) := by decide +kernel
theorem dL_law_485 : decode cL_law 485 = .ok (.iload_n 3, 1) := by decide +kernel
theorem dL_law_486 : decode cL_law 486 = .ok (.iconst 1, 1) := by decide +kernel
theorem dL_law_487 : decode cL_law 487 = .ok (.iadd, 1) := by decide +kernel
theorem dL_law_488 : decode cL_law 488 = .ok (.iaload, 1) := by decide +kernel
theorem dL_law_489 : decode cL_law 489 = .ok (.aload_n 0, 1) := by decide +kernel
theorem dL_law_490 : decode cL_law 490 = .ok (.iload_n 3, 1) := by decide +kernel
theorem dL_law_491 : decode cL_law 491 = .ok (.iconst 2, 1) := by decide +kernel
theorem dL_law_492 : decode cL_law 492 = .ok (.iadd, 1) := by decide +kernel
theorem dL_law_493 : decode cL_law 493 = .ok (.iaload, 1) := by decide +kernel
theorem dL_law_494 : decode cL_law 494 = .ok (.aload_n 0, 1) := by decide +kernel
theorem dL_law_495 : decode cL_law 495 = .ok (.iload_n 3, 1) := by decide +kernel
theorem dL_law_496 : decode cL_law 496 = .ok (.iconst 3, 1) := by decide +kernel
theorem dL_law_497 : decode cL_law 497 = .ok (.iadd, 1) := by decide +kernel
theorem dL_law_498 : decode cL_law 498 = .ok (.iaload, 1) := by decide +kernel
theorem dL_law_499 : decode cL_law 499 = .ok (.invokevirtual 53, 3) := by decide +kernel
theorem dL_law_502 : decode cL_law 502 = .ok (.if_icmp .eq 272, 3) := by decide +kernel
theorem dL_law_505 : decode cL_law 505 = .ok (.iconst 0, 1) := by decide +kernel
theorem dL_law_506 : decode cL_law 506 = .ok (.ireturn, 1) := by decide +kernel
theorem dL_law_507 : decode cL_law 507 = .ok (.aload_n 1, 1) := by decide +kernel
theorem dL_law_508 : decode cL_law 508 = .ok (.aload_n 0, 1) := by decide +kernel
theorem dL_law_509 : decode cL_law 509 = .ok (.iload_n 3, 1) := by decide +kernel
theorem dL_law_510 : decode cL_law 510 = .ok (.iconst 1, 1) := by decide +kernel
theorem dL_law_511 : decode cL_law 511 = .ok (.iadd, 1) := by decide +kernel
theorem dL_law_512 : decode cL_law 512 = .ok (.iaload, 1) := by decide +kernel
theorem dL_law_513 : decode cL_law 513 = .ok (.aload_n 0, 1) := by decide +kernel
theorem dL_law_514 : decode cL_law 514 = .ok (.iload_n 3, 1) := by decide +kernel
theorem dL_law_515 : decode cL_law 515 = .ok (.iconst 2, 1) := by decide +kernel
theorem dL_law_516 : decode cL_law 516 = .ok (.iadd, 1) := by decide +kernel
theorem dL_law_517 : decode cL_law 517 = .ok (.iaload, 1) := by decide +kernel
theorem dL_law_518 : decode cL_law 518 = .ok (.aload_n 0, 1) := by decide +kernel
theorem dL_law_519 : decode cL_law 519 = .ok (.iload_n 3, 1) := by decide +kernel
theorem dL_law_520 : decode cL_law 520 = .ok (.iconst 3, 1) := by decide +kernel
theorem dL_law_521 : decode cL_law 521 = .ok (.iadd, 1) := by decide +kernel
theorem dL_law_522 : decode cL_law 522 = .ok (.iaload, 1) := by decide +kernel
theorem dL_law_523 : decode cL_law 523 = .ok (.aload_n 0, 1) := by decide +kernel
theorem dL_law_524 : decode cL_law 524 = .ok (.iload_n 3, 1) := by decide +kernel
theorem dL_law_525 : decode cL_law 525 = .ok (.iconst 4, 1) := by decide +kernel
theorem dL_law_526 : decode cL_law 526 = .ok (.iadd, 1) := by decide +kernel
theorem dL_law_527 : decode cL_law 527 = .ok (.iaload, 1) := by decide +kernel
theorem dL_law_528 : decode cL_law 528 = .ok (.invokevirtual 54, 3) := by decide +kernel
theorem dL_law_531 : decode cL_law 531 = .ok (.aload_n 2, 1) := by decide +kernel
theorem dL_law_532 : decode cL_law 532 = .ok (.aload_n 0, 1) := by decide +kernel
theorem dL_law_533 : decode cL_law 533 = .ok (.iload_n 3, 1) := by decide +kernel
theorem dL_law_534 : decode cL_law 534 = .ok (.iconst 1, 1) := by decide +kernel
theorem dL_law_535 : decode cL_law 535 = .ok (.iadd, 1) := by decide +kernel
theorem dL_law_536 : decode cL_law 536 = .ok (.iaload, 1) := by decide +kernel
theorem dL_law_537 : decode cL_law 537 = .ok (.aload_n 0, 1) := by decide +kernel
theorem dL_law_538 : decode cL_law 538 = .ok (.iload_n 3, 1) := by decide +kernel
theorem dL_law_539 : decode cL_law 539 = .ok (.iconst 2, 1) := by decide +kernel
theorem dL_law_540 : decode cL_law 540 = .ok (.iadd, 1) := by decide +kernel
theorem dL_law_541 : decode cL_law 541 = .ok (.iaload, 1) := by decide +kernel
theorem dL_law_542 : decode cL_law 542 = .ok (.aload_n 0, 1) := by decide +kernel
theorem dL_law_543 : decode cL_law 543 = .ok (.iload_n 3, 1) := by decide +kernel
theorem dL_law_544 : decode cL_law 544 = .ok (.iconst 3, 1) := by decide +kernel
theorem dL_law_545 : decode cL_law 545 = .ok (.iadd, 1) := by decide +kernel
theorem dL_law_546 : decode cL_law 546 = .ok (.iaload, 1) := by decide +kernel
theorem dL_law_547 : decode cL_law 547 = .ok (.aload_n 0, 1) := by decide +kernel
theorem dL_law_548 : decode cL_law 548 = .ok (.iload_n 3, 1) := by decide +kernel
theorem dL_law_549 : decode cL_law 549 = .ok (.iconst 4, 1) := by decide +kernel
theorem dL_law_550 : decode cL_law 550 = .ok (.iadd, 1) := by decide +kernel
theorem dL_law_551 : decode cL_law 551 = .ok (.iaload, 1) := by decide +kernel
theorem dL_law_552 : decode cL_law 552 = .ok (.invokevirtual 57, 3) := by decide +kernel
theorem dL_law_555 : decode cL_law 555 = .ok (.if_icmp .eq 219, 3) := by decide +kernel
theorem dL_law_558 : decode cL_law 558 = .ok (.iconst 0, 1) := by decide +kernel
theorem dL_law_559 : decode cL_law 559 = .ok (.ireturn, 1) := by decide +kernel
theorem dL_law_560 : decode cL_law 560 = .ok (.aload_n 1, 1) := by decide +kernel
theorem dL_law_561 : decode cL_law 561 = .ok (.aload_n 0, 1) := by decide +kernel
theorem dL_law_562 : decode cL_law 562 = .ok (.iload_n 3, 1) := by decide +kernel
theorem dL_law_563 : decode cL_law 563 = .ok (.iconst 1, 1) := by decide +kernel
theorem dL_law_564 : decode cL_law 564 = .ok (.iadd, 1) := by decide +kernel
theorem dL_law_565 : decode cL_law 565 = .ok (.iaload, 1) := by decide +kernel
theorem dL_law_566 : decode cL_law 566 = .ok (.aload_n 0, 1) := by decide +kernel
theorem dL_law_567 : decode cL_law 567 = .ok (.iload_n 3, 1) := by decide +kernel
theorem dL_law_568 : decode cL_law 568 = .ok (.iconst 2, 1) := by decide +kernel
theorem dL_law_569 : decode cL_law 569 = .ok (.iadd, 1) := by decide +kernel
theorem dL_law_570 : decode cL_law 570 = .ok (.iaload, 1) := by decide +kernel
theorem dL_law_571 : decode cL_law 571 = .ok (.invokevirtual 58, 3) := by decide +kernel
theorem dL_law_574 : decode cL_law 574 = .ok (.aload_n 2, 1) := by decide +kernel
theorem dL_law_575 : decode cL_law 575 = .ok (.aload_n 0, 1) := by decide +kernel
theorem dL_law_576 : decode cL_law 576 = .ok (.iload_n 3, 1) := by decide +kernel
theorem dL_law_577 : decode cL_law 577 = .ok (.iconst 1, 1) := by decide +kernel
theorem dL_law_578 : decode cL_law 578 = .ok (.iadd, 1) := by decide +kernel
theorem dL_law_579 : decode cL_law 579 = .ok (.iaload, 1) := by decide +kernel
theorem dL_law_580 : decode cL_law 580 = .ok (.aload_n 0, 1) := by decide +kernel
theorem dL_law_581 : decode cL_law 581 = .ok (.iload_n 3, 1) := by decide +kernel
theorem dL_law_582 : decode cL_law 582 = .ok (.iconst 2, 1) := by decide +kernel
theorem dL_law_583 : decode cL_law 583 = .ok (.iadd, 1) := by decide +kernel
theorem dL_law_584 : decode cL_law 584 = .ok (.iaload, 1) := by decide +kernel
theorem dL_law_585 : decode cL_law 585 = .ok (.invokevirtual 61, 3) := by decide +kernel
theorem dL_law_588 : decode cL_law 588 = .ok (.if_icmp .eq 186, 3) := by decide +kernel
theorem dL_law_591 : decode cL_law 591 = .ok (.iconst 0, 1) := by decide +kernel
theorem dL_law_592 : decode cL_law 592 = .ok (.ireturn, 1) := by decide +kernel
theorem dL_law_593 : decode cL_law 593 = .ok (.aload_n 1, 1) := by decide +kernel
theorem dL_law_594 : decode cL_law 594 = .ok (.aload_n 0, 1) := by decide +kernel
theorem dL_law_595 : decode cL_law 595 = .ok (.iload_n 3, 1) := by decide +kernel
theorem dL_law_596 : decode cL_law 596 = .ok (.iconst 1, 1) := by decide +kernel
theorem dL_law_597 : decode cL_law 597 = .ok (.iadd, 1) := by decide +kernel
theorem dL_law_598 : decode cL_law 598 = .ok (.iaload, 1) := by decide +kernel
theorem dL_law_599 : decode cL_law 599 = .ok (.aload_n 0, 1) := by decide +kernel
theorem dL_law_600 : decode cL_law 600 = .ok (.iload_n 3, 1) := by decide +kernel
theorem dL_law_601 : decode cL_law 601 = .ok (.iconst 2, 1) := by decide +kernel
theorem dL_law_602 : decode cL_law 602 = .ok (.iadd, 1) := by decide +kernel
theorem dL_law_603 : decode cL_law 603 = .ok (.iaload, 1) := by decide +kernel
theorem dL_law_604 : decode cL_law 604 = .ok (.aload_n 0, 1) := by decide +kernel
theorem dL_law_605 : decode cL_law 605 = .ok (.iload_n 3, 1) := by decide +kernel
theorem dL_law_606 : decode cL_law 606 = .ok (.iconst 3, 1) := by decide +kernel
theorem dL_law_607 : decode cL_law 607 = .ok (.iadd, 1) := by decide +kernel
theorem dL_law_608 : decode cL_law 608 = .ok (.iaload, 1) := by decide +kernel
theorem dL_law_609 : decode cL_law 609 = .ok (.invokevirtual 62, 3) := by decide +kernel
theorem dL_law_612 : decode cL_law 612 = .ok (.aload_n 2, 1) := by decide +kernel
theorem dL_law_613 : decode cL_law 613 = .ok (.aload_n 0, 1) := by decide +kernel
theorem dL_law_614 : decode cL_law 614 = .ok (.iload_n 3, 1) := by decide +kernel
theorem dL_law_615 : decode cL_law 615 = .ok (.iconst 1, 1) := by decide +kernel
theorem dL_law_616 : decode cL_law 616 = .ok (.iadd, 1) := by decide +kernel
theorem dL_law_617 : decode cL_law 617 = .ok (.iaload, 1) := by decide +kernel
theorem dL_law_618 : decode cL_law 618 = .ok (.aload_n 0, 1) := by decide +kernel
theorem dL_law_619 : decode cL_law 619 = .ok (.iload_n 3, 1) := by decide +kernel
theorem dL_law_620 : decode cL_law 620 = .ok (.iconst 2, 1) := by decide +kernel
theorem dL_law_621 : decode cL_law 621 = .ok (.iadd, 1) := by decide +kernel
theorem dL_law_622 : decode cL_law 622 = .ok (.iaload, 1) := by decide +kernel
theorem dL_law_623 : decode cL_law 623 = .ok (.aload_n 0, 1) := by decide +kernel
theorem dL_law_624 : decode cL_law 624 = .ok (.iload_n 3, 1) := by decide +kernel
theorem dL_law_625 : decode cL_law 625 = .ok (.iconst 3, 1) := by decide +kernel
theorem dL_law_626 : decode cL_law 626 = .ok (.iadd, 1) := by decide +kernel
theorem dL_law_627 : decode cL_law 627 = .ok (.iaload, 1) := by decide +kernel
theorem dL_law_628 : decode cL_law 628 = .ok (.invokevirtual 65, 3) := by decide +kernel
theorem dL_law_631 : decode cL_law 631 = .ok (.if_icmp .eq 143, 3) := by decide +kernel
theorem dL_law_634 : decode cL_law 634 = .ok (.iconst 0, 1) := by decide +kernel
theorem dL_law_635 : decode cL_law 635 = .ok (.ireturn, 1) := by decide +kernel
theorem dL_law_636 : decode cL_law 636 = .ok (.aload_n 1, 1) := by decide +kernel
theorem dL_law_637 : decode cL_law 637 = .ok (.aload_n 0, 1) := by decide +kernel
theorem dL_law_638 : decode cL_law 638 = .ok (.iload_n 3, 1) := by decide +kernel
theorem dL_law_639 : decode cL_law 639 = .ok (.iconst 1, 1) := by decide +kernel
theorem dL_law_640 : decode cL_law 640 = .ok (.iadd, 1) := by decide +kernel
theorem dL_law_641 : decode cL_law 641 = .ok (.iaload, 1) := by decide +kernel
theorem dL_law_642 : decode cL_law 642 = .ok (.invokevirtual 66, 3) := by decide +kernel
theorem dL_law_645 : decode cL_law 645 = .ok (.aload_n 2, 1) := by decide +kernel
theorem dL_law_646 : decode cL_law 646 = .ok (.aload_n 0, 1) := by decide +kernel
theorem dL_law_647 : decode cL_law 647 = .ok (.iload_n 3, 1) := by decide +kernel
theorem dL_law_648 : decode cL_law 648 = .ok (.iconst 1, 1) := by decide +kernel
theorem dL_law_649 : decode cL_law 649 = .ok (.iadd, 1) := by decide +kernel
theorem dL_law_650 : decode cL_law 650 = .ok (.iaload, 1) := by decide +kernel
theorem dL_law_651 : decode cL_law 651 = .ok (.invokevirtual 69, 3) := by decide +kernel
theorem dL_law_654 : decode cL_law 654 = .ok (.if_icmp .eq 120, 3) := by decide +kernel
theorem dL_law_657 : decode cL_law 657 = .ok (.iconst 0, 1) := by decide +kernel
theorem dL_law_658 : decode cL_law 658 = .ok (.ireturn, 1) := by decide +kernel
theorem dL_law_659 : decode cL_law 659 = .ok (.aload_n 1, 1) := by decide +kernel
theorem dL_law_660 : decode cL_law 660 = .ok (.aload_n 0, 1) := by decide +kernel
theorem dL_law_661 : decode cL_law 661 = .ok (.iload_n 3, 1) := by decide +kernel
theorem dL_law_662 : decode cL_law 662 = .ok (.iconst 1, 1) := by decide +kernel
theorem dL_law_663 : decode cL_law 663 = .ok (.iadd, 1) := by decide +kernel
theorem dL_law_664 : decode cL_law 664 = .ok (.iaload, 1) := by decide +kernel
theorem dL_law_665 : decode cL_law 665 = .ok (.aload_n 0, 1) := by decide +kernel
theorem dL_law_666 : decode cL_law 666 = .ok (.iload_n 3, 1) := by decide +kernel
theorem dL_law_667 : decode cL_law 667 = .ok (.iconst 2, 1) := by decide +kernel
theorem dL_law_668 : decode cL_law 668 = .ok (.iadd, 1) := by decide +kernel
theorem dL_law_669 : decode cL_law 669 = .ok (.iaload, 1) := by decide +kernel
theorem dL_law_670 : decode cL_law 670 = .ok (.invokevirtual 70, 3) := by decide +kernel
theorem dL_law_673 : decode cL_law 673 = .ok (.aload_n 2, 1) := by decide +kernel
theorem dL_law_674 : decode cL_law 674 = .ok (.aload_n 0, 1) := by decide +kernel
theorem dL_law_675 : decode cL_law 675 = .ok (.iload_n 3, 1) := by decide +kernel
theorem dL_law_676 : decode cL_law 676 = .ok (.iconst 1, 1) := by decide +kernel
theorem dL_law_677 : decode cL_law 677 = .ok (.iadd, 1) := by decide +kernel
theorem dL_law_678 : decode cL_law 678 = .ok (.iaload, 1) := by decide +kernel
theorem dL_law_679 : decode cL_law 679 = .ok (.aload_n 0, 1) := by decide +kernel
theorem dL_law_680 : decode cL_law 680 = .ok (.iload_n 3, 1) := by decide +kernel
theorem dL_law_681 : decode cL_law 681 = .ok (.iconst 2, 1) := by decide +kernel
theorem dL_law_682 : decode cL_law 682 = .ok (.iadd, 1) := by decide +kernel
theorem dL_law_683 : decode cL_law 683 = .ok (.iaload, 1) := by decide +kernel
theorem dL_law_684 : decode cL_law 684 = .ok (.invokevirtual 73, 3) := by decide +kernel
theorem dL_law_687 : decode cL_law 687 = .ok (.if_icmp .eq 87, 3) := by decide +kernel
theorem dL_law_690 : decode cL_law 690 = .ok (.iconst 0, 1) := by decide +kernel
theorem dL_law_691 : decode cL_law 691 = .ok (.ireturn, 1) := by decide +kernel
theorem dL_law_692 : decode cL_law 692 = .ok (.aload_n 1, 1) := by decide +kernel
theorem dL_law_693 : decode cL_law 693 = .ok (.invokevirtual 74, 3) := by decide +kernel
theorem dL_law_696 : decode cL_law 696 = .ok (.aload_n 2, 1) := by decide +kernel
theorem dL_law_697 : decode cL_law 697 = .ok (.invokevirtual 78, 3) := by decide +kernel
theorem dL_law_700 : decode cL_law 700 = .ok (.if_icmp .eq 74, 3) := by decide +kernel
theorem dL_law_703 : decode cL_law 703 = .ok (.iconst 0, 1) := by decide +kernel
theorem dL_law_704 : decode cL_law 704 = .ok (.ireturn, 1) := by decide +kernel
theorem dL_law_705 : decode cL_law 705 = .ok (.aload_n 1, 1) := by decide +kernel
theorem dL_law_706 : decode cL_law 706 = .ok (.aload_n 0, 1) := by decide +kernel
theorem dL_law_707 : decode cL_law 707 = .ok (.iload_n 3, 1) := by decide +kernel
theorem dL_law_708 : decode cL_law 708 = .ok (.iconst 1, 1) := by decide +kernel
theorem dL_law_709 : decode cL_law 709 = .ok (.iadd, 1) := by decide +kernel
theorem dL_law_710 : decode cL_law 710 = .ok (.iaload, 1) := by decide +kernel
theorem dL_law_711 : decode cL_law 711 = .ok (.invokevirtual 79, 3) := by decide +kernel
theorem dL_law_714 : decode cL_law 714 = .ok (.aload_n 2, 1) := by decide +kernel
theorem dL_law_715 : decode cL_law 715 = .ok (.aload_n 0, 1) := by decide +kernel
theorem dL_law_716 : decode cL_law 716 = .ok (.iload_n 3, 1) := by decide +kernel
theorem dL_law_717 : decode cL_law 717 = .ok (.iconst 1, 1) := by decide +kernel
theorem dL_law_718 : decode cL_law 718 = .ok (.iadd, 1) := by decide +kernel
theorem dL_law_719 : decode cL_law 719 = .ok (.iaload, 1) := by decide +kernel
theorem dL_law_720 : decode cL_law 720 = .ok (.invokevirtual 82, 3) := by decide +kernel
theorem dL_law_723 : decode cL_law 723 = .ok (.if_icmp .eq 51, 3) := by decide +kernel
theorem dL_law_726 : decode cL_law 726 = .ok (.iconst 0, 1) := by decide +kernel
theorem dL_law_727 : decode cL_law 727 = .ok (.ireturn, 1) := by decide +kernel
theorem dL_law_728 : decode cL_law 728 = .ok (.aload_n 1, 1) := by decide +kernel
theorem dL_law_729 : decode cL_law 729 = .ok (.aload_n 0, 1) := by decide +kernel
theorem dL_law_730 : decode cL_law 730 = .ok (.iload_n 3, 1) := by decide +kernel
theorem dL_law_731 : decode cL_law 731 = .ok (.iconst 1, 1) := by decide +kernel
theorem dL_law_732 : decode cL_law 732 = .ok (.iadd, 1) := by decide +kernel
theorem dL_law_733 : decode cL_law 733 = .ok (.iaload, 1) := by decide +kernel
theorem dL_law_734 : decode cL_law 734 = .ok (.invokevirtual 83, 3) := by decide +kernel
theorem dL_law_737 : decode cL_law 737 = .ok (.aload_n 2, 1) := by decide +kernel
theorem dL_law_738 : decode cL_law 738 = .ok (.aload_n 0, 1) := by decide +kernel
theorem dL_law_739 : decode cL_law 739 = .ok (.iload_n 3, 1) := by decide +kernel
theorem dL_law_740 : decode cL_law 740 = .ok (.iconst 1, 1) := by decide +kernel
theorem dL_law_741 : decode cL_law 741 = .ok (.iadd, 1) := by decide +kernel
theorem dL_law_742 : decode cL_law 742 = .ok (.iaload, 1) := by decide +kernel
theorem dL_law_743 : decode cL_law 743 = .ok (.invokevirtual 86, 3) := by decide +kernel
theorem dL_law_746 : decode cL_law 746 = .ok (.if_icmp .eq 28, 3) := by decide +kernel
theorem dL_law_749 : decode cL_law 749 = .ok (.iconst 0, 1) := by decide +kernel
theorem dL_law_750 : decode cL_law 750 = .ok (.ireturn, 1) := by decide +kernel
theorem dL_law_751 : decode cL_law 751 = .ok (.aload_n 1, 1) := by decide +kernel
theorem dL_law_752 : decode cL_law 752 = .ok (.aload_n 0, 1) := by decide +kernel
theorem dL_law_753 : decode cL_law 753 = .ok (.iload_n 3, 1) := by decide +kernel
theorem dL_law_754 : decode cL_law 754 = .ok (.iconst 1, 1) := by decide +kernel
theorem dL_law_755 : decode cL_law 755 = .ok (.iadd, 1) := by decide +kernel
theorem dL_law_756 : decode cL_law 756 = .ok (.iaload, 1) := by decide +kernel
theorem dL_law_757 : decode cL_law 757 = .ok (.invokevirtual 87, 3) := by decide +kernel
theorem dL_law_760 : decode cL_law 760 = .ok (.aload_n 2, 1) := by decide +kernel
theorem dL_law_761 : decode cL_law 761 = .ok (.aload_n 0, 1) := by decide +kernel
theorem dL_law_762 : decode cL_law 762 = .ok (.iload_n 3, 1) := by decide +kernel
theorem dL_law_763 : decode cL_law 763 = .ok (.iconst 1, 1) := by decide +kernel
theorem dL_law_764 : decode cL_law 764 = .ok (.iadd, 1) := by decide +kernel
theorem dL_law_765 : decode cL_law 765 = .ok (.iaload, 1) := by decide +kernel
theorem dL_law_766 : decode cL_law 766 = .ok (.invokevirtual 90, 3) := by decide +kernel
theorem dL_law_769 : decode cL_law 769 = .ok (.if_icmp .eq 5, 3) := by decide +kernel
theorem dL_law_772 : decode cL_law 772 = .ok (.iconst 0, 1) := by decide +kernel
theorem dL_law_773 : decode cL_law 773 = .ok (.ireturn, 1) := by decide +kernel
theorem dL_law_774 : decode cL_law 774 = .ok (.iinc 3 6, 3) := by decide +kernel
theorem dL_law_777 : decode cL_law 777 = .ok (.goto (-759), 3) := by decide +kernel
theorem dL_law_780 : decode cL_law 780 = .ok (.iconst 1, 1) := by decide +kernel
theorem dL_law_781 : decode cL_law 781 = .ok (.ireturn, 1) := by decide +kernel
end
section
theorem nI_inc (i : Nat) : nI i + Int32.ofInt 1 = nI (i + 1) := nI_1 i
def ush (x y : Int32) : Int32 := (x.toUInt32 >>> (y.toUInt32 &&& Int32.toUInt32 31)).toInt32
section GO
variable {p : Program} {l : Launch} {e : Env} {R : Room} {s : State} {m : MethodId} {args : Array Value} {below : List Frame} {meth : Method} {c : Code} {H : Heap} {locs : List Loc} {cells slots : Nat} {Q : State → Prop}
variable {cc : ByteArray} {pc : Nat} {ls : Array Slot} {rest : List Value}
theorem o_split {o : Option Nat} (k0 : o = none → W p l e R s m args below meth c H locs cells slots Q (F0 m pc ls (.int (-6) :: rest))) (k1 : ∀ j : Nat, o = some j → W p l e R s m args below meth c H locs cells slots Q (F0 m pc ls (.int (nI j) :: rest))) : W p l e R s m args below meth c H locs cells slots Q (F0 m pc ls (.int (oI o) :: rest)) := by
  cases o with
  | none => exact k0 rfl
  | some j => exact k1 j rfl
theorem n_if_eq {x : Int32} (a : Nat) (hx' : x = nI a) (ha : a < 2 ^ 31) {off : Int} {tgt : Nat} (hexec : p.tables.exec = Jvm.exec) (hb : c.code = cc) (hdg : decode cc pc = .ok (.ifCond .eq off, 3)) (ht : (pc : Int) + off = (tgt : Int)) (kt : a = 0 → W p l e R s m args below meth c H locs cells slots Q (F0 m tgt ls rest)) (kf : ¬ a = 0 → W p l e R s m args below meth c H locs cells slots Q (F0 m (pc + 3) ls rest)) : W p l e R s m args below meth c H locs cells slots Q (F0 m pc ls (.int x :: rest)) := by
  subst hx'
  exact lv_if_eq hexec hb hdg ht (fun h => kt (by rcases Nat.eq_zero_or_pos a with q | q; exact q; exact absurd h (nI_ne0 q ha))) (fun h => kf (fun q => h (by rw [q]; exact nI_0)))
theorem n_if_ne {x : Int32} (a : Nat) (hx' : x = nI a) (ha : a < 2 ^ 31) {off : Int} {tgt : Nat} (hexec : p.tables.exec = Jvm.exec) (hb : c.code = cc) (hdg : decode cc pc = .ok (.ifCond .ne off, 3)) (ht : (pc : Int) + off = (tgt : Int)) (kt : ¬ a = 0 → W p l e R s m args below meth c H locs cells slots Q (F0 m tgt ls rest)) (kf : a = 0 → W p l e R s m args below meth c H locs cells slots Q (F0 m (pc + 3) ls rest)) : W p l e R s m args below meth c H locs cells slots Q (F0 m pc ls (.int x :: rest)) := by
  subst hx'
  exact lv_if_ne hexec hb hdg ht (fun h => kt (fun q => h (by rw [q]; exact nI_0))) (fun h => kf (by rcases Nat.eq_zero_or_pos a with q | q; exact q; exact absurd h (nI_ne0 q ha)))
theorem n_if_gt {x : Int32} (a : Nat) (hx' : x = nI a) (ha : a < 2 ^ 31) {off : Int} {tgt : Nat} (hexec : p.tables.exec = Jvm.exec) (hb : c.code = cc) (hdg : decode cc pc = .ok (.ifCond .gt off, 3)) (ht : (pc : Int) + off = (tgt : Int)) (kt : 0 < a → W p l e R s m args below meth c H locs cells slots Q (F0 m tgt ls rest)) (kf : ¬ 0 < a → W p l e R s m args below meth c H locs cells slots Q (F0 m (pc + 3) ls rest)) : W p l e R s m args below meth c H locs cells slots Q (F0 m pc ls (.int x :: rest)) := by
  subst hx'
  exact lv_if_gt hexec hb hdg ht (fun h => kt ((nI_ltI (by decide) ha).mp (by rw [nI_0]; exact h))) (fun h => kf (fun q => h (by rw [← nI_0]; exact (nI_ltI (by decide) ha).mpr q)))
theorem n_if_le {x : Int32} (a : Nat) (hx' : x = nI a) (ha : a < 2 ^ 31) {off : Int} {tgt : Nat} (hexec : p.tables.exec = Jvm.exec) (hb : c.code = cc) (hdg : decode cc pc = .ok (.ifCond .le off, 3)) (ht : (pc : Int) + off = (tgt : Int)) (kt : a ≤ 0 → W p l e R s m args below meth c H locs cells slots Q (F0 m tgt ls rest)) (kf : ¬ a ≤ 0 → W p l e R s m args below meth c H locs cells slots Q (F0 m (pc + 3) ls rest)) : W p l e R s m args below meth c H locs cells slots Q (F0 m pc ls (.int x :: rest)) := by
  subst hx'
  exact lv_if_le hexec hb hdg ht (fun h => kt ((nI_leI ha (by decide)).mp (by rw [nI_0]; exact h))) (fun h => kf (fun q => h (by rw [← nI_0]; exact (nI_leI ha (by decide)).mpr q)))
end GO
theorem i_eq {x : Int32} {k : Int32} {a : Int} (hk : k.toInt = a) (h : ¬ x = k) : ¬ x.toInt = a := fun q => h (Int32.toInt_inj.mp (q.trans hk.symm))
theorem tb_out2 {x : Int32} (h0 : ¬ x = 0) (h1 : ¬ x = 1) (h2 : ¬ x = 2) : x.toInt < 0 ∨ 2 < x.toInt := by
  have a0 := i_eq (a := 0) (by decide) h0; have a1 := i_eq (a := 1) (by decide) h1; have a2 := i_eq (a := 2) (by decide) h2
  omega
theorem tb_out3 {x : Int32} (h0 : ¬ x = 0) (h1 : ¬ x = 1) (h2 : ¬ x = 2) (h3 : ¬ x = 3) : x.toInt < 0 ∨ 3 < x.toInt := by
  have a0 := i_eq (a := 0) (by decide) h0; have a1 := i_eq (a := 1) (by decide) h1; have a2 := i_eq (a := 2) (by decide) h2; have a3 := i_eq (a := 3) (by decide) h3
  omega
theorem tb_out4 {x : Int32} (h0 : ¬ x = 0) (h1 : ¬ x = 1) (h2 : ¬ x = 2) (h3 : ¬ x = 3) (h4 : ¬ x = 4) : x.toInt < 0 ∨ 4 < x.toInt := by
  have a0 := i_eq (a := 0) (by decide) h0; have a1 := i_eq (a := 1) (by decide) h1; have a2 := i_eq (a := 2) (by decide) h2; have a3 := i_eq (a := 3) (by decide) h3; have a4 := i_eq (a := 4) (by decide) h4
  omega
theorem tb_out5 {x : Int32} (h0 : ¬ x = 0) (h1 : ¬ x = 1) (h2 : ¬ x = 2) (h3 : ¬ x = 3) (h4 : ¬ x = 4) (h5 : ¬ x = 5) : x.toInt < 0 ∨ 5 < x.toInt := by
  have a0 := i_eq (a := 0) (by decide) h0; have a1 := i_eq (a := 1) (by decide) h1; have a2 := i_eq (a := 2) (by decide) h2; have a3 := i_eq (a := 3) (by decide) h3; have a4 := i_eq (a := 4) (by decide) h4; have a5 := i_eq (a := 5) (by decide) h5
  omega
/-- the first of n numbers from i on -/
def fF (p : Nat → Bool) : Nat → Nat → Option Nat
  | 0, _ => none
  | n + 1, i => if p i then some i else fF p n (i + 1)
/-- the last of them -/
def lF (p : Nat → Bool) : Nat → Nat → Option Nat → Option Nat
  | 0, _, o => o
  | n + 1, i, o => lF p n (i + 1) (if p i then some i else o)
/-- how many -/
def cF (p : Nat → Bool) : Nat → Nat → Nat
  | 0, _ => 0
  | n + 1, i => (if p i then 1 else 0) + cF p n (i + 1)
/-- a step for each -/
def iF {σ : Type} (f : Nat → σ → σ) : Nat → Nat → σ → σ
  | 0, _, x => x
  | n + 1, i, x => iF f n (i + 1) (f i x)
theorem fF_lt {p : Nat → Bool} : ∀ {n i j : Nat}, fF p n i = some j → i ≤ j ∧ j < i + n ∧ p j = true
  | 0, i, j, h => by simp [fF] at h
  | n + 1, i, j, h => by
    unfold fF at h
    by_cases q : p i = true
    · simp [q] at h
      subst h
      exact ⟨Nat.le_refl _, by omega, q⟩
    · simp [q] at h
      have := fF_lt h
      exact ⟨by omega, by omega, this.2.2⟩
theorem cF_le (p : Nat → Bool) : ∀ (n i : Nat), cF p n i ≤ n
  | 0, _ => Nat.le_refl _
  | n + 1, i => by
    have := cF_le p n (i + 1)
    unfold cF
    split <;> omega
/-! the box's own numbers -/
def lentC (st : St) (o : Nat) : Bool := !decide (st 1 o = -6)
def hostC (st : St) (o : Nat) : Int32 := if lentC st o then st 1 o / 32 else -6
def isForC (st : St) (o : Nat) (r rp : Int32) : Bool := (decide (st 4 o = -6) || decide (st 4 o = r)) && (decide (st 5 o = -6) || decide (st 5 o = rp))
def seekP (st : St) (ip r rp : Int32) (o : Nat) : Bool := decide (st 1 o = ip) && isForC st o r rp
def seekO (st : St) (ip r rp : Int32) : Option Nat := fF (seekP st ip r rp) 16 0
theorem seekO_lt {st : St} {ip r rp : Int32} {j : Nat} (h : seekO st ip r rp = some j) : j < 16 := by
  have := fF_lt h
  omega
def zero5 (o : Nat) : Nat → St → St := fun i st => sU st 6 (o * 5 + i) 0
def lendC (st : St) (o : Nat) (ip r rp : Int32) : St := iF (zero5 o) 5 0 (sU (sU (sU (sU st 1 o ip) 2 o 0) 4 o r) 5 o rp)
def markC (st : St) (o r rp : Nat) : St := sU st 6 (o * 5 + r) (st 6 (o * 5 + r) ||| 1 <<< (nI rp &&& 31))
def isSentC (st : St) (o r rp : Nat) : Bool := decide (ush (st 6 (o * 5 + r)) (nI rp) &&& 1 = 1)
def isAnyC (st : St) (o r : Nat) : Bool := !decide (st 6 (o * 5 + r) = 0)
def bcC (x : Int32) : Int32 :=
  let x1 := x - (ush x 1 &&& 1431655765)
  let x2 := (x1 &&& 858993459) + (ush x1 2 &&& 858993459)
  let x3 := (x2 + ush x2 4) &&& 252645135
  let x4 := x3 + ush x3 8
  let x5 := x4 + ush x4 16
  x5 &&& 63
def sumF (f : Nat → Int32) : Nat → Nat → Int32 → Int32
  | 0, _, x => x
  | n + 1, i, x => sumF f n (i + 1) (x + f i)
def countSentC (st : St) (o : Nat) : Int32 := sumF (fun r => bcC (st 6 (o * 5 + r))) 5 0 0
def countAllC (st : St) : Nat := cF (lentC st) 16 0
def countHostC (st : St) (h : Int32) : Nat := cF (fun o => decide (hostC st o = h)) 16 0
def holderC (st : St) (b : Nat) : Int32 := match fF (fun i => lentC st (b * 4 + i)) 4 0 with
  | none => -6
  | some i => hostC st (b * 4 + i)
def orF (p : Nat → Bool) : Nat → Nat → Int32 → Int32
  | 0, _, x => x
  | n + 1, i, x => orF p n (i + 1) (if p i then x ||| 1 <<< (nI i &&& 31) else x)
def blocksC (st : St) (h : Int32) : Int32 := orF (fun b => decide (holderC st b = h)) 4 0 0
/-! packets -/
def knownC (st : St) (k : Nat) : Bool := !decide (st 7 k = -6)
def forgetAllC (o : Int32) (k : Nat) (st : St) : St := if st 7 k = o then sU st 7 k (-6) else st
def placeP (st : St) (v : Int32) (i : Nat) : Bool := decide (st 9 i = v)
def placeO (st : St) (v : Int32) : Option Nat := fF (placeP st v) 6 0
theorem placeO_lt {st : St} {v : Int32} {j : Nat} (h : placeO st v = some j) : j < 6 := by
  have := fF_lt h
  omega
def relP (st : St) (k : Int32) (i : Nat) : Bool := !decide (st 9 i = -6) && decide (st 9 i / 8 = k)
def relS (k : Int32) (i : Nat) (x : St × Nat) : St × Nat := if relP x.1 k i then (sU x.1 9 i (-6), x.2 + 1) else x
def holdC (st : St) (v t : Int32) : Int32 × St := match placeO st v with
  | some _ => (0, st)
  | none => match placeO st (-6) with
    | none => (-4, st)
    | some j => (0, sU (sU st 9 j v) 10 j t)
def oldK (t : Int32) (k : Nat) (st : St) : St := if knownC st k && !decide (t - st 8 k < 5) then sU st 7 k (-6) else st
def oldH (t : Int32) (i : Nat) (st : St) : St := if !decide (st 9 i = -6) && !decide (t - st 10 i < 5) then sU st 9 i (-6) else st
def endOldC (st : St) (t : Int32) : St := iF (oldH t) 6 0 (iF (oldK t) 32 0 st)
def countKnownC (st : St) : Nat := cF (knownC st) 32 0
def countHeldC (st : St) : Nat := cF (fun i => !decide (st 9 i = -6)) 6 0
end
section
set_option maxHeartbeats 4000000 in
set_option maxRecDepth 100000 in
theorem c_X0_isLent (l : Launch) (E : EE) (a : Nat → Nat) (st : St) (w : va_W) (o : Nat) (ho : o < 16) : Ct l yX0_isLent cX0_isLent 2 (some .boolean) 0 E [.ref (a 2), .int (nI o)] (wB E a st w) (bI (lentC st o)) (wB E a st w) := by
  refine Ct_mk RX0 rfl (by decide +kernel) (Nat.le_of_ble_eq_true rfl) ?_
  intro p e s m below meth c A ls X hr G hl
  have hl : lv_has ls 2 [(0, .ref (a 2)), (1, .int (nI o))] := hl
  obtain ⟨hx, hb, hml, hown, hts, hK, hA, hlocks⟩ := id X
  refine lv_aload_n hx hb dX0_isLent_0 rfl (lv_at hl 0 rfl) ?_
  refine g_get X G fX0_9 2 rfl rfl dX0_isLent_1 ?_
  refine lv_iload_n hx hb dX0_isLent_4 rfl (lv_at hl 1 rfl) ?_
  refine g_iald (j := o) X G 4 rfl rfl (by omega) (by decide) dX0_isLent_5 ?_
  refine lv_bipush (v := (-6)) hx hb dX0_isLent_6 (by decide) ?_
  refine lv_icmp_eq (tgt := 15) hx hb dX0_isLent_8 (by decide) (fun c1 => ?_) (fun c1 => ?_)
  · skip
    refine lv_iconst (v := 0) hx hb dX0_isLent_15 (by decide) ?_
    exact g_ret X hr rfl G rfl (by simp [lentC, bI, c1]) dX0_isLent_16
  · skip
    refine lv_iconst (v := 1) hx hb dX0_isLent_11 (by decide) ?_
    refine lv_goto (tgt := 16) hx hb dX0_isLent_12 (by decide) ?_
    exact g_ret X hr rfl G rfl (by simp [lentC, bI, c1]) dX0_isLent_16
set_option maxHeartbeats 4000000 in
set_option maxRecDepth 100000 in
theorem c_X0_hostOf (l : Launch) (E : EE) (a : Nat → Nat) (st : St) (w : va_W) (o : Nat) (ho : o < 16) : Ct l yX0_hostOf cX0_hostOf 2 (some .int) 1 E [.ref (a 2), .int (nI o)] (wB E a st w) (hostC st o) (wB E a st w) := by
  refine Ct_mk RX0 rfl (by decide +kernel) (Nat.le_of_ble_eq_true rfl) ?_
  intro p e s m below meth c A ls X hr G hl
  have hl : lv_has ls 2 [(0, .ref (a 2)), (1, .int (nI o))] := hl
  obtain ⟨hx, hb, hml, hown, hts, hK, hA, hlocks⟩ := id X
  refine lv_aload_n hx hb dX0_hostOf_0 rfl (lv_at hl 0 rfl) ?_
  refine lv_iload_n hx hb dX0_hostOf_1 rfl (lv_at hl 1 rfl) ?_
  refine g_callV (As := [.int (nI o)]) (rest := []) X kX0_36 (c_X0_isLent l E a st w o (by omega)) G 2 rfl rfl ⟨Nat.le_of_ble_eq_true rfl, Nat.le_of_ble_eq_true rfl⟩ ⟨Nat.le_refl _, Nat.le_refl _⟩ rfl hl.1 rfl (Nat.le_of_ble_eq_true rfl) dX0_hostOf_2 (fun H locs G => ?_)
  refine b_ifeq (tgt := 20) hx hb dX0_hostOf_5 (by decide) (fun c1 => ?_) (fun c1 => ?_)
  · skip
    refine lv_bipush (v := (-6)) hx hb dX0_hostOf_20 (by decide) ?_
    exact g_iret X hr G rfl (by simp [hostC, c1]) dX0_hostOf_22
  · skip
    refine lv_aload_n hx hb dX0_hostOf_8 rfl (lv_at hl 0 rfl) ?_
    refine g_get X G fX0_9 2 rfl rfl dX0_hostOf_9 ?_
    refine lv_iload_n hx hb dX0_hostOf_12 rfl (lv_at hl 1 rfl) ?_
    refine g_iald (j := o) X G 4 rfl rfl (by omega) (by decide) dX0_hostOf_13 ?_
    refine lv_bipush (v := 32) hx hb dX0_hostOf_14 (by decide) ?_
    refine lv_idiv hx hb dX0_hostOf_16 (by decide) ?_
    refine lv_goto (tgt := 22) hx hb dX0_hostOf_17 (by decide) ?_
    exact g_iret X hr G rfl (by simp [hostC, c1]) dX0_hostOf_22
set_option maxHeartbeats 4000000 in
set_option maxRecDepth 100000 in
theorem c_X0_isFor (l : Launch) (E : EE) (a : Nat → Nat) (st : St) (w : va_W) (o : Nat) (ho : o < 16) (r : Int32) (rp : Int32) : Ct l yX0_isFor cX0_isFor 4 (some .boolean) 0 E [.ref (a 2), .int (nI o), .int r, .int rp] (wB E a st w) (bI (isForC st o r rp)) (wB E a st w) := by
  refine Ct_mk RX0 rfl (by decide +kernel) (Nat.le_of_ble_eq_true rfl) ?_
  intro p e s m below meth c A ls X hr G hl
  have hl : lv_has ls 4 [(0, .ref (a 2)), (1, .int (nI o)), (2, .int r), (3, .int rp)] := hl
  obtain ⟨hx, hb, hml, hown, hts, hK, hA, hlocks⟩ := id X
  refine lv_aload_n hx hb dX0_isFor_0 rfl (lv_at hl 0 rfl) ?_
  refine g_get X G fX0_21 2 rfl rfl dX0_isFor_1 ?_
  refine lv_iload_n hx hb dX0_isFor_4 rfl (lv_at hl 1 rfl) ?_
  refine g_iald (j := o) X G 7 rfl rfl (by omega) (by decide) dX0_isFor_5 ?_
  refine lv_bipush (v := (-6)) hx hb dX0_isFor_6 (by decide) ?_
  refine lv_icmp_eq (tgt := 21) hx hb dX0_isFor_8 (by decide) (fun c1 => ?_) (fun c1 => ?_)
  · skip
    refine lv_aload_n hx hb dX0_isFor_21 rfl (lv_at hl 0 rfl) ?_
    refine g_get X G fX0_24 2 rfl rfl dX0_isFor_22 ?_
    refine lv_iload_n hx hb dX0_isFor_25 rfl (lv_at hl 1 rfl) ?_
    refine g_iald (j := o) X G 8 rfl rfl (by omega) (by decide) dX0_isFor_26 ?_
    refine lv_bipush (v := (-6)) hx hb dX0_isFor_27 (by decide) ?_
    refine lv_icmp_eq (tgt := 42) hx hb dX0_isFor_29 (by decide) (fun c2 => ?_) (fun c2 => ?_)
    · skip
      refine lv_iconst (v := 1) hx hb dX0_isFor_42 (by decide) ?_
      refine lv_goto (tgt := 47) hx hb dX0_isFor_43 (by decide) ?_
      exact g_ret X hr rfl G rfl (by simp [isForC, bI, c1, c2]) dX0_isFor_47
    · skip
      refine lv_aload_n hx hb dX0_isFor_32 rfl (lv_at hl 0 rfl) ?_
      refine g_get X G fX0_24 2 rfl rfl dX0_isFor_33 ?_
      refine lv_iload_n hx hb dX0_isFor_36 rfl (lv_at hl 1 rfl) ?_
      refine g_iald (j := o) X G 8 rfl rfl (by omega) (by decide) dX0_isFor_37 ?_
      refine lv_iload_n hx hb dX0_isFor_38 rfl (lv_at hl 3 rfl) ?_
      refine lv_icmp_ne (tgt := 46) hx hb dX0_isFor_39 (by decide) (fun c3 => ?_) (fun c3 => ?_)
      · skip
        refine lv_iconst (v := 0) hx hb dX0_isFor_46 (by decide) ?_
        exact g_ret X hr rfl G rfl (by simp [isForC, bI, c1, c2, c3]) dX0_isFor_47
      · skip
        refine lv_iconst (v := 1) hx hb dX0_isFor_42 (by decide) ?_
        refine lv_goto (tgt := 47) hx hb dX0_isFor_43 (by decide) ?_
        exact g_ret X hr rfl G rfl (by simp [isForC, bI, c1, c2, c3]) dX0_isFor_47
  · skip
    refine lv_aload_n hx hb dX0_isFor_11 rfl (lv_at hl 0 rfl) ?_
    refine g_get X G fX0_21 2 rfl rfl dX0_isFor_12 ?_
    refine lv_iload_n hx hb dX0_isFor_15 rfl (lv_at hl 1 rfl) ?_
    refine g_iald (j := o) X G 7 rfl rfl (by omega) (by decide) dX0_isFor_16 ?_
    refine lv_iload_n hx hb dX0_isFor_17 rfl (lv_at hl 2 rfl) ?_
    refine lv_icmp_ne (tgt := 46) hx hb dX0_isFor_18 (by decide) (fun c4 => ?_) (fun c4 => ?_)
    · skip
      refine lv_iconst (v := 0) hx hb dX0_isFor_46 (by decide) ?_
      exact g_ret X hr rfl G rfl (by simp [isForC, bI, c1, c4]) dX0_isFor_47
    · skip
      refine lv_aload_n hx hb dX0_isFor_21 rfl (lv_at hl 0 rfl) ?_
      refine g_get X G fX0_24 2 rfl rfl dX0_isFor_22 ?_
      refine lv_iload_n hx hb dX0_isFor_25 rfl (lv_at hl 1 rfl) ?_
      refine g_iald (j := o) X G 8 rfl rfl (by omega) (by decide) dX0_isFor_26 ?_
      refine lv_bipush (v := (-6)) hx hb dX0_isFor_27 (by decide) ?_
      refine lv_icmp_eq (tgt := 42) hx hb dX0_isFor_29 (by decide) (fun c5 => ?_) (fun c5 => ?_)
      · skip
        refine lv_iconst (v := 1) hx hb dX0_isFor_42 (by decide) ?_
        refine lv_goto (tgt := 47) hx hb dX0_isFor_43 (by decide) ?_
        exact g_ret X hr rfl G rfl (by simp [isForC, bI, c1, c4, c5]) dX0_isFor_47
      · skip
        refine lv_aload_n hx hb dX0_isFor_32 rfl (lv_at hl 0 rfl) ?_
        refine g_get X G fX0_24 2 rfl rfl dX0_isFor_33 ?_
        refine lv_iload_n hx hb dX0_isFor_36 rfl (lv_at hl 1 rfl) ?_
        refine g_iald (j := o) X G 8 rfl rfl (by omega) (by decide) dX0_isFor_37 ?_
        refine lv_iload_n hx hb dX0_isFor_38 rfl (lv_at hl 3 rfl) ?_
        refine lv_icmp_ne (tgt := 46) hx hb dX0_isFor_39 (by decide) (fun c6 => ?_) (fun c6 => ?_)
        · skip
          refine lv_iconst (v := 0) hx hb dX0_isFor_46 (by decide) ?_
          exact g_ret X hr rfl G rfl (by simp [isForC, bI, c1, c4, c5, c6]) dX0_isFor_47
        · skip
          refine lv_iconst (v := 1) hx hb dX0_isFor_42 (by decide) ?_
          refine lv_goto (tgt := 47) hx hb dX0_isFor_43 (by decide) ?_
          exact g_ret X hr rfl G rfl (by simp [isForC, bI, c1, c4, c5, c6]) dX0_isFor_47
set_option maxHeartbeats 4000000 in
set_option maxRecDepth 100000 in
theorem c_X0_seek (l : Launch) (E : EE) (a : Nat → Nat) (st : St) (w : va_W) (ip : Int32) (r : Int32) (rp : Int32) : Ct l yX0_seek cX0_seek 5 (some .int) 1 E [.ref (a 2), .int ip, .int r, .int rp] (wB E a st w) (oI (seekO st ip r rp)) (wB E a st w) := by
  refine Ct_mk RX0 rfl (by decide +kernel) (Nat.le_of_ble_eq_true rfl) ?_
  intro p e s m below meth c A ls X hr G hl
  have hl : lv_has ls 5 [(0, .ref (a 2)), (1, .int ip), (2, .int r), (3, .int rp)] := hl
  obtain ⟨hx, hb, hml, hown, hts, hK, hA, hlocks⟩ := id X
  refine lv_iconst (v := 0) hx hb dX0_seek_0 (by decide) ?_
  refine lv_istore (lv' := [(4, .int 0), (0, .ref (a 2)), (1, .int ip), (2, .int r), (3, .int rp)]) hx hb dX0_seek_1 hl (by decide) rfl (fun ls hl => ?_)
  have LP3 : ∀ (n i : Nat)  (H : Heap) (locs : List Loc) (ls : Array Slot), (i + n = 16) → (oI (fF (seekP st ip r rp) n i) = oI (seekO st ip r rp)) → Gw E A s (wB E a st w) H locs → lv_has ls 5 [(0, .ref (a 2)), (1, .int ip), (2, .int r), (3, .int rp), (4, .int (nI i))] → W p l e (rmD 1) s m ([.ref (a 2), .int ip, .int r, .int rp] : List Value).toArray below meth c H locs 0 0 (MQ below (CtQ E A (oI (seekO st ip r rp)) (wB E a st w)) ([.ref (a 2), .int ip, .int r, .int rp] : List Value).toArray s 0 0 A) (F0 m 3 ls []) := by
    intro n
    induction n with
    | zero =>
      intro i  H locs ls hi hR G hl
      refine lv_iload hx hb dX0_seek_3 (lv_at hl 4 rfl) ?_
      refine lv_bipush (v := 16) hx hb dX0_seek_5 (by decide) ?_
      refine n_cmp_ge (tgt := 41) i 16 rfl rfl (by omega) (by omega) hx hb dX0_seek_7 (by decide) (fun c1 => ?_) (fun c1 => ?_)
      · skip
        refine lv_bipush (v := (-6)) hx hb dX0_seek_41 (by decide) ?_
        exact g_iret X hr G rfl (by rw [← hR]; simp [fF, seekP, oI, c1]) dX0_seek_43
      · skip
        exact absurd c1 (by omega)
    | succ n ih3 =>
      intro i  H locs ls hi hR G hl
      refine lv_iload hx hb dX0_seek_3 (lv_at hl 4 rfl) ?_
      refine lv_bipush (v := 16) hx hb dX0_seek_5 (by decide) ?_
      refine n_cmp_ge (tgt := 41) i 16 rfl rfl (by omega) (by omega) hx hb dX0_seek_7 (by decide) (fun c2 => ?_) (fun c2 => ?_)
      · skip
        exact absurd c2 (by omega)
      · skip
        refine lv_aload_n hx hb dX0_seek_10 rfl (lv_at hl 0 rfl) ?_
        refine g_get X G fX0_9 2 rfl rfl dX0_seek_11 ?_
        refine lv_iload hx hb dX0_seek_14 (lv_at hl 4 rfl) ?_
        refine g_iald (j := i) X G 4 rfl rfl (by omega) (by decide) dX0_seek_16 ?_
        refine lv_iload_n hx hb dX0_seek_17 rfl (lv_at hl 1 rfl) ?_
        refine lv_icmp_ne (tgt := 35) hx hb dX0_seek_18 (by decide) (fun c3 => ?_) (fun c3 => ?_)
        · skip
          refine lv_iinc (v := nI (i + 1)) (lv' := [(4, .int (nI (i + 1))), (0, .ref (a 2)), (1, .int ip), (2, .int r), (3, .int rp)]) hx hb dX0_seek_35 hl (k := 4) rfl (nI_inc _) (by decide) rfl (fun ls hl => ?_)
          refine lv_goto (tgt := 3) hx hb dX0_seek_38 (by decide) ?_
          exact ih3 (i + 1)  _ _ ls (by omega) (by rw [← hR]; simp [fF, seekP, oI, c2, c3]) G (lv_sub hl [1, 2, 3, 4, 0] rfl)
        · skip
          refine lv_aload_n hx hb dX0_seek_21 rfl (lv_at hl 0 rfl) ?_
          refine lv_iload hx hb dX0_seek_22 (lv_at hl 4 rfl) ?_
          refine lv_iload_n hx hb dX0_seek_24 rfl (lv_at hl 2 rfl) ?_
          refine lv_iload_n hx hb dX0_seek_25 rfl (lv_at hl 3 rfl) ?_
          refine g_callV (As := [.int (nI i), .int r, .int rp]) (rest := []) X kX0_40 (c_X0_isFor l E a st w i (by omega) r rp) G 2 rfl rfl ⟨Nat.le_of_ble_eq_true rfl, Nat.le_of_ble_eq_true rfl⟩ ⟨Nat.le_refl _, Nat.le_refl _⟩ rfl hl.1 rfl (Nat.le_of_ble_eq_true rfl) dX0_seek_26 (fun H locs G => ?_)
          refine b_ifeq (tgt := 35) hx hb dX0_seek_29 (by decide) (fun c4 => ?_) (fun c4 => ?_)
          · skip
            refine lv_iinc (v := nI (i + 1)) (lv' := [(4, .int (nI (i + 1))), (0, .ref (a 2)), (1, .int ip), (2, .int r), (3, .int rp)]) hx hb dX0_seek_35 hl (k := 4) rfl (nI_inc _) (by decide) rfl (fun ls hl => ?_)
            refine lv_goto (tgt := 3) hx hb dX0_seek_38 (by decide) ?_
            exact ih3 (i + 1)  _ _ ls (by omega) (by rw [← hR]; simp [fF, seekP, oI, c2, c3, c4]) G (lv_sub hl [1, 2, 3, 4, 0] rfl)
          · skip
            refine lv_iload hx hb dX0_seek_32 (lv_at hl 4 rfl) ?_
            exact g_iret X hr G rfl (by rw [← hR]; simp [fF, seekP, oI, c2, c3, c4]) dX0_seek_34
  exact LP3 16 0  _ _ ls (by omega) rfl G (lv_sub hl [1, 2, 3, 4, 0] rfl)
set_option maxHeartbeats 4000000 in
set_option maxRecDepth 100000 in
theorem c_X0_lend (l : Launch) (E : EE) (a : Nat → Nat) (st : St) (w : va_W) (o : Nat) (ho : o < 16) (ip : Int32) (r : Int32) (rp : Int32) : Cv l yX0_lend cX0_lend 6 0 E [.ref (a 2), .int (nI o), .int ip, .int r, .int rp] (wB E a st w) (wB E a (lendC st o ip r rp) w) := by
  refine Cv_mk RX0 rfl (by decide +kernel) (Nat.le_of_ble_eq_true rfl) ?_
  intro p e s m below meth c A ls X hr G hl
  have hl : lv_has ls 6 [(0, .ref (a 2)), (1, .int (nI o)), (2, .int ip), (3, .int r), (4, .int rp)] := hl
  obtain ⟨hx, hb, hml, hown, hts, hK, hA, hlocks⟩ := id X
  refine lv_aload_n hx hb dX0_lend_0 rfl (lv_at hl 0 rfl) ?_
  refine g_get X G fX0_9 2 rfl rfl dX0_lend_1 ?_
  refine lv_iload_n hx hb dX0_lend_4 rfl (lv_at hl 1 rfl) ?_
  refine lv_iload_n hx hb dX0_lend_5 rfl (lv_at hl 2 rfl) ?_
  refine g_iast (j := o) X G 4 rfl rfl (by omega) (by decide) dX0_lend_6 (fun H locs G => ?_)
  have G : Gw E A s (wB E a (sU st 1 o ip) w) H locs := G
  refine lv_aload_n hx hb dX0_lend_7 rfl (lv_at hl 0 rfl) ?_
  refine g_get X G fX0_15 2 rfl rfl dX0_lend_8 ?_
  refine lv_iload_n hx hb dX0_lend_11 rfl (lv_at hl 1 rfl) ?_
  refine lv_iconst (v := 0) hx hb dX0_lend_12 (by decide) ?_
  refine g_iast (j := o) X G 5 rfl rfl (by omega) (by decide) dX0_lend_13 (fun H locs G => ?_)
  have G : Gw E A s (wB E a (sU (sU st 1 o ip) 2 o 0) w) H locs := G
  refine lv_aload_n hx hb dX0_lend_14 rfl (lv_at hl 0 rfl) ?_
  refine g_get X G fX0_21 2 rfl rfl dX0_lend_15 ?_
  refine lv_iload_n hx hb dX0_lend_18 rfl (lv_at hl 1 rfl) ?_
  refine lv_iload_n hx hb dX0_lend_19 rfl (lv_at hl 3 rfl) ?_
  refine g_iast (j := o) X G 7 rfl rfl (by omega) (by decide) dX0_lend_20 (fun H locs G => ?_)
  have G : Gw E A s (wB E a (sU (sU (sU st 1 o ip) 2 o 0) 4 o r) w) H locs := G
  refine lv_aload_n hx hb dX0_lend_21 rfl (lv_at hl 0 rfl) ?_
  refine g_get X G fX0_24 2 rfl rfl dX0_lend_22 ?_
  refine lv_iload_n hx hb dX0_lend_25 rfl (lv_at hl 1 rfl) ?_
  refine lv_iload hx hb dX0_lend_26 (lv_at hl 4 rfl) ?_
  refine g_iast (j := o) X G 8 rfl rfl (by omega) (by decide) dX0_lend_28 (fun H locs G => ?_)
  have G : Gw E A s (wB E a (sU (sU (sU (sU st 1 o ip) 2 o 0) 4 o r) 5 o rp) w) H locs := G
  refine lv_iconst (v := 0) hx hb dX0_lend_29 (by decide) ?_
  refine lv_istore (lv' := [(5, .int 0), (0, .ref (a 2)), (1, .int (nI o)), (2, .int ip), (3, .int r), (4, .int rp)]) hx hb dX0_lend_30 hl (by decide) rfl (fun ls hl => ?_)
  have LP32 : ∀ (n i : Nat) (sx : St) (H : Heap) (locs : List Loc) (ls : Array Slot), (i + n = 5) → (iF (zero5 o) n i sx = lendC st o ip r rp) → Gw E A s (wB E a sx w) H locs → lv_has ls 6 [(0, .ref (a 2)), (1, .int (nI o)), (5, .int (nI i))] → W p l e (rmD 0) s m ([.ref (a 2), .int (nI o), .int ip, .int r, .int rp] : List Value).toArray below meth c H locs 0 0 (MQ below (CvQ E A (wB E a (lendC st o ip r rp) w)) ([.ref (a 2), .int (nI o), .int ip, .int r, .int rp] : List Value).toArray s 0 0 A) (F0 m 32 ls []) := by
    intro n
    induction n with
    | zero =>
      intro i sx H locs ls hi hR G hl
      refine lv_iload hx hb dX0_lend_32 (lv_at hl 2 rfl) ?_
      refine lv_iconst (v := 5) hx hb dX0_lend_34 (by decide) ?_
      refine n_cmp_ge (tgt := 56) i 5 rfl rfl (by omega) (by omega) hx hb dX0_lend_35 (by decide) (fun c1 => ?_) (fun c1 => ?_)
      · skip
        exact g_vret X hr G (congrArg (fun z => wB E a z w) (by rw [← hR]; rfl)) dX0_lend_56
      · skip
        exact absurd c1 (by omega)
    | succ n ih32 =>
      intro i sx H locs ls hi hR G hl
      refine lv_iload hx hb dX0_lend_32 (lv_at hl 2 rfl) ?_
      refine lv_iconst (v := 5) hx hb dX0_lend_34 (by decide) ?_
      refine n_cmp_ge (tgt := 56) i 5 rfl rfl (by omega) (by omega) hx hb dX0_lend_35 (by decide) (fun c2 => ?_) (fun c2 => ?_)
      · skip
        exact absurd c2 (by omega)
      · skip
        refine lv_aload_n hx hb dX0_lend_38 rfl (lv_at hl 0 rfl) ?_
        refine g_get X G fX0_27 2 rfl rfl dX0_lend_39 ?_
        refine lv_iload_n hx hb dX0_lend_42 rfl (lv_at hl 1 rfl) ?_
        refine lv_iconst (v := 5) hx hb dX0_lend_43 (by decide) ?_
        refine n_imul o 5 rfl rfl hx hb dX0_lend_44 ?_
        refine lv_iload hx hb dX0_lend_45 (lv_at hl 2 rfl) ?_
        refine n_iadd (o * 5) i rfl rfl hx hb dX0_lend_47 ?_
        refine lv_iconst (v := 0) hx hb dX0_lend_48 (by decide) ?_
        refine g_iast (j := (o * 5) + i) X G 9 rfl rfl (by omega) (by decide) dX0_lend_49 (fun H locs G => ?_)
        have G : Gw E A s (wB E a (sU sx 6 ((o * 5) + i) 0) w) H locs := G
        refine lv_iinc (v := nI (i + 1)) (lv' := [(5, .int (nI (i + 1))), (0, .ref (a 2)), (1, .int (nI o))]) hx hb dX0_lend_50 hl (k := 2) rfl (nI_inc _) (by decide) rfl (fun ls hl => ?_)
        refine lv_goto (tgt := 32) hx hb dX0_lend_53 (by decide) ?_
        exact ih32 (i + 1) (sU sx 6 ((o * 5) + i) 0) _ _ ls (by omega) (by rw [← hR]; rfl) G (lv_sub hl [1, 2, 0] rfl)
  exact LP32 5 0 (sU (sU (sU (sU st 1 o ip) 2 o 0) 4 o r) 5 o rp) _ _ ls (by omega) rfl G (lv_sub hl [1, 2, 0] rfl)
set_option maxHeartbeats 4000000 in
set_option maxRecDepth 100000 in
theorem c_X0_unlend (l : Launch) (E : EE) (a : Nat → Nat) (st : St) (w : va_W) (o : Nat) (ho : o < 16) : Cv l yX0_unlend cX0_unlend 2 0 E [.ref (a 2), .int (nI o)] (wB E a st w) (wB E a (sU st 1 o (-6)) w) := by
  refine Cv_mk RX0 rfl (by decide +kernel) (Nat.le_of_ble_eq_true rfl) ?_
  intro p e s m below meth c A ls X hr G hl
  have hl : lv_has ls 2 [(0, .ref (a 2)), (1, .int (nI o))] := hl
  obtain ⟨hx, hb, hml, hown, hts, hK, hA, hlocks⟩ := id X
  refine lv_aload_n hx hb dX0_unlend_0 rfl (lv_at hl 0 rfl) ?_
  refine g_get X G fX0_9 2 rfl rfl dX0_unlend_1 ?_
  refine lv_iload_n hx hb dX0_unlend_4 rfl (lv_at hl 1 rfl) ?_
  refine lv_bipush (v := (-6)) hx hb dX0_unlend_5 (by decide) ?_
  refine g_iast (j := o) X G 4 rfl rfl (by omega) (by decide) dX0_unlend_7 (fun H locs G => ?_)
  have G : Gw E A s (wB E a (sU st 1 o (-6)) w) H locs := G
  exact g_vret X hr G rfl dX0_unlend_8
set_option maxHeartbeats 4000000 in
set_option maxRecDepth 100000 in
theorem c_X0_markSent (l : Launch) (E : EE) (a : Nat → Nat) (st : St) (w : va_W) (o : Nat) (ho : o < 16) (r : Nat) (hr : r < 5) (rp : Nat) : Cv l yX0_markSent cX0_markSent 4 0 E [.ref (a 2), .int (nI o), .int (nI r), .int (nI rp)] (wB E a st w) (wB E a (markC st o r rp) w) := by
  refine Cv_mk RX0 rfl (by decide +kernel) (Nat.le_of_ble_eq_true rfl) ?_
  intro p e s m below meth c A ls X hr G hl
  have hl : lv_has ls 4 [(0, .ref (a 2)), (1, .int (nI o)), (2, .int (nI r)), (3, .int (nI rp))] := hl
  obtain ⟨hx, hb, hml, hown, hts, hK, hA, hlocks⟩ := id X
  refine lv_aload_n hx hb dX0_markSent_0 rfl (lv_at hl 0 rfl) ?_
  refine g_get X G fX0_27 2 rfl rfl dX0_markSent_1 ?_
  refine lv_iload_n hx hb dX0_markSent_4 rfl (lv_at hl 1 rfl) ?_
  refine lv_iconst (v := 5) hx hb dX0_markSent_5 (by decide) ?_
  refine n_imul o 5 rfl rfl hx hb dX0_markSent_6 ?_
  refine lv_iload_n hx hb dX0_markSent_7 rfl (lv_at hl 2 rfl) ?_
  refine n_iadd (o * 5) r rfl rfl hx hb dX0_markSent_8 ?_
  refine lv_dup2_11 hx hb dX0_markSent_9 rfl rfl ?_
  refine g_iald (j := (o * 5) + r) X G 9 rfl rfl (by omega) (by decide) dX0_markSent_10 ?_
  refine lv_iconst (v := 1) hx hb dX0_markSent_11 (by decide) ?_
  refine lv_iload_n hx hb dX0_markSent_12 rfl (lv_at hl 3 rfl) ?_
  refine lv_ishl hx hb dX0_markSent_13 ?_
  refine lv_ior hx hb dX0_markSent_14 ?_
  refine g_iast (j := (o * 5) + r) X G 9 rfl rfl (by omega) (by decide) dX0_markSent_15 (fun H locs G => ?_)
  have G : Gw E A s (wB E a (sU st 6 ((o * 5) + r) ((st 6 ((o * 5) + r)) ||| (1 <<< ((nI rp) &&& 31)))) w) H locs := G
  exact g_vret X hr G (congrArg (fun z => wB E a z w) (by rfl)) dX0_markSent_16
set_option maxHeartbeats 4000000 in
set_option maxRecDepth 100000 in
theorem c_X0_isSent (l : Launch) (E : EE) (a : Nat → Nat) (st : St) (w : va_W) (o : Nat) (ho : o < 16) (r : Nat) (hr : r < 5) (rp : Nat) : Ct l yX0_isSent cX0_isSent 4 (some .boolean) 0 E [.ref (a 2), .int (nI o), .int (nI r), .int (nI rp)] (wB E a st w) (bI (isSentC st o r rp)) (wB E a st w) := by
  refine Ct_mk RX0 rfl (by decide +kernel) (Nat.le_of_ble_eq_true rfl) ?_
  intro p e s m below meth c A ls X hr G hl
  have hl : lv_has ls 4 [(0, .ref (a 2)), (1, .int (nI o)), (2, .int (nI r)), (3, .int (nI rp))] := hl
  obtain ⟨hx, hb, hml, hown, hts, hK, hA, hlocks⟩ := id X
  refine lv_aload_n hx hb dX0_isSent_0 rfl (lv_at hl 0 rfl) ?_
  refine g_get X G fX0_27 2 rfl rfl dX0_isSent_1 ?_
  refine lv_iload_n hx hb dX0_isSent_4 rfl (lv_at hl 1 rfl) ?_
  refine lv_iconst (v := 5) hx hb dX0_isSent_5 (by decide) ?_
  refine n_imul o 5 rfl rfl hx hb dX0_isSent_6 ?_
  refine lv_iload_n hx hb dX0_isSent_7 rfl (lv_at hl 2 rfl) ?_
  refine n_iadd (o * 5) r rfl rfl hx hb dX0_isSent_8 ?_
  refine g_iald (j := (o * 5) + r) X G 9 rfl rfl (by omega) (by decide) dX0_isSent_9 ?_
  refine lv_iload_n hx hb dX0_isSent_10 rfl (lv_at hl 3 rfl) ?_
  refine lv_iushr (v := ush (st 6 ((o * 5) + r)) (nI rp)) hx hb dX0_isSent_11 rfl ?_
  refine lv_iconst (v := 1) hx hb dX0_isSent_12 (by decide) ?_
  refine lv_iand hx hb dX0_isSent_13 ?_
  refine lv_iconst (v := 1) hx hb dX0_isSent_14 (by decide) ?_
  refine lv_icmp_ne (tgt := 22) hx hb dX0_isSent_15 (by decide) (fun c1 => ?_) (fun c1 => ?_)
  · skip
    refine lv_iconst (v := 0) hx hb dX0_isSent_22 (by decide) ?_
    exact g_ret X hr rfl G rfl (by simp [isSentC, bI, c1]) dX0_isSent_23
  · skip
    refine lv_iconst (v := 1) hx hb dX0_isSent_18 (by decide) ?_
    refine lv_goto (tgt := 23) hx hb dX0_isSent_19 (by decide) ?_
    exact g_ret X hr rfl G rfl (by simp [isSentC, bI, c1]) dX0_isSent_23
set_option maxHeartbeats 4000000 in
set_option maxRecDepth 100000 in
theorem c_X0_isAnySent (l : Launch) (E : EE) (a : Nat → Nat) (st : St) (w : va_W) (o : Nat) (ho : o < 16) (r : Nat) (hr : r < 5) : Ct l yX0_isAnySent cX0_isAnySent 3 (some .boolean) 0 E [.ref (a 2), .int (nI o), .int (nI r)] (wB E a st w) (bI (isAnyC st o r)) (wB E a st w) := by
  refine Ct_mk RX0 rfl (by decide +kernel) (Nat.le_of_ble_eq_true rfl) ?_
  intro p e s m below meth c A ls X hr G hl
  have hl : lv_has ls 3 [(0, .ref (a 2)), (1, .int (nI o)), (2, .int (nI r))] := hl
  obtain ⟨hx, hb, hml, hown, hts, hK, hA, hlocks⟩ := id X
  refine lv_aload_n hx hb dX0_isAnySent_0 rfl (lv_at hl 0 rfl) ?_
  refine g_get X G fX0_27 2 rfl rfl dX0_isAnySent_1 ?_
  refine lv_iload_n hx hb dX0_isAnySent_4 rfl (lv_at hl 1 rfl) ?_
  refine lv_iconst (v := 5) hx hb dX0_isAnySent_5 (by decide) ?_
  refine n_imul o 5 rfl rfl hx hb dX0_isAnySent_6 ?_
  refine lv_iload_n hx hb dX0_isAnySent_7 rfl (lv_at hl 2 rfl) ?_
  refine n_iadd (o * 5) r rfl rfl hx hb dX0_isAnySent_8 ?_
  refine g_iald (j := (o * 5) + r) X G 9 rfl rfl (by omega) (by decide) dX0_isAnySent_9 ?_
  refine lv_if_eq (tgt := 17) hx hb dX0_isAnySent_10 (by decide) (fun c1 => ?_) (fun c1 => ?_)
  · skip
    refine lv_iconst (v := 0) hx hb dX0_isAnySent_17 (by decide) ?_
    exact g_ret X hr rfl G rfl (by simp [isAnyC, bI, c1]) dX0_isAnySent_18
  · skip
    refine lv_iconst (v := 1) hx hb dX0_isAnySent_13 (by decide) ?_
    refine lv_goto (tgt := 18) hx hb dX0_isAnySent_14 (by decide) ?_
    exact g_ret X hr rfl G rfl (by simp [isAnyC, bI, c1]) dX0_isAnySent_18
set_option maxHeartbeats 4000000 in
set_option maxRecDepth 100000 in
theorem c_X0_countAll (l : Launch) (E : EE) (a : Nat → Nat) (st : St) (w : va_W) : Ct l yX0_countAll cX0_countAll 3 (some .int) 1 E [.ref (a 2)] (wB E a st w) (nI (countAllC st)) (wB E a st w) := by
  refine Ct_mk RX0 rfl (by decide +kernel) (Nat.le_of_ble_eq_true rfl) ?_
  intro p e s m below meth c A ls X hr G hl
  have hl : lv_has ls 3 [(0, .ref (a 2))] := hl
  obtain ⟨hx, hb, hml, hown, hts, hK, hA, hlocks⟩ := id X
  refine lv_iconst (v := 0) hx hb dX0_countAll_0 (by decide) ?_
  refine lv_istore_n (lv' := [(1, .int 0), (0, .ref (a 2))]) hx hb dX0_countAll_1 rfl hl (by decide) rfl (fun ls hl => ?_)
  refine lv_iconst (v := 0) hx hb dX0_countAll_2 (by decide) ?_
  refine lv_istore_n (lv' := [(2, .int 0), (1, .int 0), (0, .ref (a 2))]) hx hb dX0_countAll_3 rfl hl (by decide) rfl (fun ls hl => ?_)
  have LP4 : ∀ (n i : Nat) (k : Nat) (H : Heap) (locs : List Loc) (ls : Array Slot), (i + n = 16) → (k + cF (lentC st) n i = countAllC st) → Gw E A s (wB E a st w) H locs → lv_has ls 3 [(0, .ref (a 2)), (1, .int (nI k)), (2, .int (nI i))] → W p l e (rmD 1) s m ([.ref (a 2)] : List Value).toArray below meth c H locs 0 0 (MQ below (CtQ E A (nI (countAllC st)) (wB E a st w)) ([.ref (a 2)] : List Value).toArray s 0 0 A) (F0 m 4 ls []) := by
    intro n
    induction n with
    | zero =>
      intro i k H locs ls hi hR G hl
      refine lv_iload_n hx hb dX0_countAll_4 rfl (lv_at hl 2 rfl) ?_
      refine lv_bipush (v := 16) hx hb dX0_countAll_5 (by decide) ?_
      refine n_cmp_ge (tgt := 27) i 16 rfl rfl (by omega) (by omega) hx hb dX0_countAll_7 (by decide) (fun c1 => ?_) (fun c1 => ?_)
      · skip
        refine lv_iload_n hx hb dX0_countAll_27 rfl (lv_at hl 1 rfl) ?_
        exact g_iret X hr G rfl (by rw [← hR]; simp [cF]) dX0_countAll_28
      · skip
        exact absurd c1 (by omega)
    | succ n ih4 =>
      intro i k H locs ls hi hR G hl
      refine lv_iload_n hx hb dX0_countAll_4 rfl (lv_at hl 2 rfl) ?_
      refine lv_bipush (v := 16) hx hb dX0_countAll_5 (by decide) ?_
      refine n_cmp_ge (tgt := 27) i 16 rfl rfl (by omega) (by omega) hx hb dX0_countAll_7 (by decide) (fun c2 => ?_) (fun c2 => ?_)
      · skip
        exact absurd c2 (by omega)
      · skip
        refine lv_aload_n hx hb dX0_countAll_10 rfl (lv_at hl 0 rfl) ?_
        refine lv_iload_n hx hb dX0_countAll_11 rfl (lv_at hl 2 rfl) ?_
        refine g_callV (As := [.int (nI i)]) (rest := []) X kX0_36 (c_X0_isLent l E a st w i (by omega)) G 2 rfl rfl ⟨Nat.le_of_ble_eq_true rfl, Nat.le_of_ble_eq_true rfl⟩ ⟨Nat.le_refl _, Nat.le_refl _⟩ rfl hl.1 rfl (Nat.le_of_ble_eq_true rfl) dX0_countAll_12 (fun H locs G => ?_)
        refine b_ifeq (tgt := 21) hx hb dX0_countAll_15 (by decide) (fun c3 => ?_) (fun c3 => ?_)
        · skip
          refine lv_iinc (v := nI (i + 1)) (lv' := [(2, .int (nI (i + 1))), (0, .ref (a 2)), (1, .int (nI k))]) hx hb dX0_countAll_21 hl (k := 2) rfl (nI_inc _) (by decide) rfl (fun ls hl => ?_)
          refine lv_goto (tgt := 4) hx hb dX0_countAll_24 (by decide) ?_
          exact ih4 (i + 1) k _ _ ls (by omega) (by simp [cF, c2, c3] at hR ⊢; omega) G (lv_sub hl [1, 2, 0] rfl)
        · skip
          refine lv_iinc (v := nI (k + 1)) (lv' := [(1, .int (nI (k + 1))), (0, .ref (a 2)), (2, .int (nI i))]) hx hb dX0_countAll_18 hl (k := 1) rfl (nI_inc _) (by decide) rfl (fun ls hl => ?_)
          refine lv_iinc (v := nI (i + 1)) (lv' := [(2, .int (nI (i + 1))), (1, .int (nI (k + 1))), (0, .ref (a 2))]) hx hb dX0_countAll_21 hl (k := 2) rfl (nI_inc _) (by decide) rfl (fun ls hl => ?_)
          refine lv_goto (tgt := 4) hx hb dX0_countAll_24 (by decide) ?_
          exact ih4 (i + 1) (k + 1) _ _ ls (by omega) (by simp [cF, c2, c3] at hR ⊢; omega) G (lv_sub hl [2, 1, 0] rfl)
  exact LP4 16 0 0 _ _ ls (by omega) (by simp [countAllC]) G (lv_sub hl [2, 1, 0] rfl)
set_option maxHeartbeats 4000000 in
set_option maxRecDepth 100000 in
theorem c_X0_countOfHost (l : Launch) (E : EE) (a : Nat → Nat) (st : St) (w : va_W) (h : Int32) : Ct l yX0_countOfHost cX0_countOfHost 4 (some .int) 2 E [.ref (a 2), .int h] (wB E a st w) (nI (countHostC st h)) (wB E a st w) := by
  refine Ct_mk RX0 rfl (by decide +kernel) (Nat.le_of_ble_eq_true rfl) ?_
  intro p e s m below meth c A ls X hr G hl
  have hl : lv_has ls 4 [(0, .ref (a 2)), (1, .int h)] := hl
  obtain ⟨hx, hb, hml, hown, hts, hK, hA, hlocks⟩ := id X
  refine lv_iconst (v := 0) hx hb dX0_countOfHost_0 (by decide) ?_
  refine lv_istore_n (lv' := [(2, .int 0), (0, .ref (a 2)), (1, .int h)]) hx hb dX0_countOfHost_1 rfl hl (by decide) rfl (fun ls hl => ?_)
  refine lv_iconst (v := 0) hx hb dX0_countOfHost_2 (by decide) ?_
  refine lv_istore_n (lv' := [(3, .int 0), (2, .int 0), (0, .ref (a 2)), (1, .int h)]) hx hb dX0_countOfHost_3 rfl hl (by decide) rfl (fun ls hl => ?_)
  have LP4 : ∀ (n i : Nat) (k : Nat) (H : Heap) (locs : List Loc) (ls : Array Slot), (i + n = 16) → (k + cF (fun o => decide (hostC st o = h)) n i = countHostC st h) → Gw E A s (wB E a st w) H locs → lv_has ls 4 [(0, .ref (a 2)), (1, .int h), (2, .int (nI k)), (3, .int (nI i))] → W p l e (rmD 2) s m ([.ref (a 2), .int h] : List Value).toArray below meth c H locs 0 0 (MQ below (CtQ E A (nI (countHostC st h)) (wB E a st w)) ([.ref (a 2), .int h] : List Value).toArray s 0 0 A) (F0 m 4 ls []) := by
    intro n
    induction n with
    | zero =>
      intro i k H locs ls hi hR G hl
      refine lv_iload_n hx hb dX0_countOfHost_4 rfl (lv_at hl 3 rfl) ?_
      refine lv_bipush (v := 16) hx hb dX0_countOfHost_5 (by decide) ?_
      refine n_cmp_ge (tgt := 28) i 16 rfl rfl (by omega) (by omega) hx hb dX0_countOfHost_7 (by decide) (fun c1 => ?_) (fun c1 => ?_)
      · skip
        refine lv_iload_n hx hb dX0_countOfHost_28 rfl (lv_at hl 2 rfl) ?_
        exact g_iret X hr G rfl (by rw [← hR]; simp [cF]) dX0_countOfHost_29
      · skip
        exact absurd c1 (by omega)
    | succ n ih4 =>
      intro i k H locs ls hi hR G hl
      refine lv_iload_n hx hb dX0_countOfHost_4 rfl (lv_at hl 3 rfl) ?_
      refine lv_bipush (v := 16) hx hb dX0_countOfHost_5 (by decide) ?_
      refine n_cmp_ge (tgt := 28) i 16 rfl rfl (by omega) (by omega) hx hb dX0_countOfHost_7 (by decide) (fun c2 => ?_) (fun c2 => ?_)
      · skip
        exact absurd c2 (by omega)
      · skip
        refine lv_aload_n hx hb dX0_countOfHost_10 rfl (lv_at hl 0 rfl) ?_
        refine lv_iload_n hx hb dX0_countOfHost_11 rfl (lv_at hl 3 rfl) ?_
        refine g_callV (As := [.int (nI i)]) (rest := []) X kX0_50 (c_X0_hostOf l E a st w i (by omega)) G 2 rfl rfl ⟨Nat.le_of_ble_eq_true rfl, Nat.le_of_ble_eq_true rfl⟩ ⟨Nat.le_refl _, Nat.le_refl _⟩ rfl hl.1 rfl (Nat.le_of_ble_eq_true rfl) dX0_countOfHost_12 (fun H locs G => ?_)
        refine lv_iload_n hx hb dX0_countOfHost_15 rfl (lv_at hl 1 rfl) ?_
        refine lv_icmp_ne (tgt := 22) hx hb dX0_countOfHost_16 (by decide) (fun c3 => ?_) (fun c3 => ?_)
        · skip
          refine lv_iinc (v := nI (i + 1)) (lv' := [(3, .int (nI (i + 1))), (0, .ref (a 2)), (1, .int h), (2, .int (nI k))]) hx hb dX0_countOfHost_22 hl (k := 3) rfl (nI_inc _) (by decide) rfl (fun ls hl => ?_)
          refine lv_goto (tgt := 4) hx hb dX0_countOfHost_25 (by decide) ?_
          exact ih4 (i + 1) k _ _ ls (by omega) (by simp [cF, c2, c3] at hR ⊢; omega) G (lv_sub hl [1, 2, 3, 0] rfl)
        · skip
          refine lv_iinc (v := nI (k + 1)) (lv' := [(2, .int (nI (k + 1))), (0, .ref (a 2)), (1, .int h), (3, .int (nI i))]) hx hb dX0_countOfHost_19 hl (k := 2) rfl (nI_inc _) (by decide) rfl (fun ls hl => ?_)
          refine lv_iinc (v := nI (i + 1)) (lv' := [(3, .int (nI (i + 1))), (2, .int (nI (k + 1))), (0, .ref (a 2)), (1, .int h)]) hx hb dX0_countOfHost_22 hl (k := 3) rfl (nI_inc _) (by decide) rfl (fun ls hl => ?_)
          refine lv_goto (tgt := 4) hx hb dX0_countOfHost_25 (by decide) ?_
          exact ih4 (i + 1) (k + 1) _ _ ls (by omega) (by simp [cF, c2, c3] at hR ⊢; omega) G (lv_sub hl [2, 3, 1, 0] rfl)
  exact LP4 16 0 0 _ _ ls (by omega) (by simp [countHostC]) G (lv_sub hl [2, 3, 1, 0] rfl)
set_option maxHeartbeats 4000000 in
set_option maxRecDepth 100000 in
theorem c_X0_holderOf (l : Launch) (E : EE) (a : Nat → Nat) (st : St) (w : va_W) (b : Nat) (hb : b < 4) : Ct l yX0_holderOf cX0_holderOf 3 (some .int) 2 E [.ref (a 2), .int (nI b)] (wB E a st w) (holderC st b) (wB E a st w) := by
  refine Ct_mk RX0 rfl (by decide +kernel) (Nat.le_of_ble_eq_true rfl) ?_
  intro p e s m below meth c A ls X hr G hl
  have hl : lv_has ls 3 [(0, .ref (a 2)), (1, .int (nI b))] := hl
  obtain ⟨hx, hb, hml, hown, hts, hK, hA, hlocks⟩ := id X
  refine lv_iconst (v := 0) hx hb dX0_holderOf_0 (by decide) ?_
  refine lv_istore_n (lv' := [(2, .int 0), (0, .ref (a 2)), (1, .int (nI b))]) hx hb dX0_holderOf_1 rfl hl (by decide) rfl (fun ls hl => ?_)
  have LP2 : ∀ (n i : Nat)  (H : Heap) (locs : List Loc) (ls : Array Slot), (i + n = 4) → ((match fF (fun i => lentC st (b * 4 + i)) n i with | none => -6 | some i => hostC st (b * 4 + i)) = holderC st b) → Gw E A s (wB E a st w) H locs → lv_has ls 3 [(0, .ref (a 2)), (1, .int (nI b)), (2, .int (nI i))] → W p l e (rmD 2) s m ([.ref (a 2), .int (nI b)] : List Value).toArray below meth c H locs 0 0 (MQ below (CtQ E A (holderC st b) (wB E a st w)) ([.ref (a 2), .int (nI b)] : List Value).toArray s 0 0 A) (F0 m 2 ls []) := by
    intro n
    induction n with
    | zero =>
      intro i  H locs ls hi hR G hl
      refine lv_iload_n hx hb dX0_holderOf_2 rfl (lv_at hl 2 rfl) ?_
      refine lv_iconst (v := 4) hx hb dX0_holderOf_3 (by decide) ?_
      refine n_cmp_ge (tgt := 35) i 4 rfl rfl (by omega) (by omega) hx hb dX0_holderOf_4 (by decide) (fun c1 => ?_) (fun c1 => ?_)
      · skip
        refine lv_bipush (v := (-6)) hx hb dX0_holderOf_35 (by decide) ?_
        exact g_iret X hr G rfl (by rw [← hR]; simp [fF, c1]) dX0_holderOf_37
      · skip
        exact absurd c1 (by omega)
    | succ n ih2 =>
      intro i  H locs ls hi hR G hl
      refine lv_iload_n hx hb dX0_holderOf_2 rfl (lv_at hl 2 rfl) ?_
      refine lv_iconst (v := 4) hx hb dX0_holderOf_3 (by decide) ?_
      refine n_cmp_ge (tgt := 35) i 4 rfl rfl (by omega) (by omega) hx hb dX0_holderOf_4 (by decide) (fun c2 => ?_) (fun c2 => ?_)
      · skip
        exact absurd c2 (by omega)
      · skip
        refine lv_aload_n hx hb dX0_holderOf_7 rfl (lv_at hl 0 rfl) ?_
        refine lv_iload_n hx hb dX0_holderOf_8 rfl (lv_at hl 1 rfl) ?_
        refine lv_iconst (v := 4) hx hb dX0_holderOf_9 (by decide) ?_
        refine n_imul b 4 rfl rfl hx hb dX0_holderOf_10 ?_
        refine lv_iload_n hx hb dX0_holderOf_11 rfl (lv_at hl 2 rfl) ?_
        refine n_iadd (b * 4) i rfl rfl hx hb dX0_holderOf_12 ?_
        refine g_callV (As := [.int (nI ((b * 4) + i))]) (rest := []) X kX0_36 (c_X0_isLent l E a st w ((b * 4) + i) (by omega)) G 2 rfl rfl ⟨Nat.le_of_ble_eq_true rfl, Nat.le_of_ble_eq_true rfl⟩ ⟨Nat.le_refl _, Nat.le_refl _⟩ rfl hl.1 rfl (Nat.le_of_ble_eq_true rfl) dX0_holderOf_13 (fun H locs G => ?_)
        refine b_ifeq (tgt := 29) hx hb dX0_holderOf_16 (by decide) (fun c3 => ?_) (fun c3 => ?_)
        · skip
          refine lv_iinc (v := nI (i + 1)) (lv' := [(2, .int (nI (i + 1))), (0, .ref (a 2)), (1, .int (nI b))]) hx hb dX0_holderOf_29 hl (k := 2) rfl (nI_inc _) (by decide) rfl (fun ls hl => ?_)
          refine lv_goto (tgt := 2) hx hb dX0_holderOf_32 (by decide) ?_
          exact ih2 (i + 1)  _ _ ls (by omega) (by rw [← hR]; simp [fF, c2, c3]) G (lv_sub hl [1, 2, 0] rfl)
        · skip
          refine lv_aload_n hx hb dX0_holderOf_19 rfl (lv_at hl 0 rfl) ?_
          refine lv_iload_n hx hb dX0_holderOf_20 rfl (lv_at hl 1 rfl) ?_
          refine lv_iconst (v := 4) hx hb dX0_holderOf_21 (by decide) ?_
          refine n_imul b 4 rfl rfl hx hb dX0_holderOf_22 ?_
          refine lv_iload_n hx hb dX0_holderOf_23 rfl (lv_at hl 2 rfl) ?_
          refine n_iadd (b * 4) i rfl rfl hx hb dX0_holderOf_24 ?_
          refine g_callV (As := [.int (nI ((b * 4) + i))]) (rest := []) X kX0_50 (c_X0_hostOf l E a st w ((b * 4) + i) (by omega)) G 2 rfl rfl ⟨Nat.le_of_ble_eq_true rfl, Nat.le_of_ble_eq_true rfl⟩ ⟨Nat.le_refl _, Nat.le_refl _⟩ rfl hl.1 rfl (Nat.le_of_ble_eq_true rfl) dX0_holderOf_25 (fun H locs G => ?_)
          exact g_iret X hr G rfl (by rw [← hR]; simp [fF, c2, c3]) dX0_holderOf_28
  exact LP2 4 0  _ _ ls (by omega) rfl G (lv_sub hl [1, 2, 0] rfl)
set_option maxHeartbeats 4000000 in
set_option maxRecDepth 100000 in
theorem c_X0_blocksOf (l : Launch) (E : EE) (a : Nat → Nat) (st : St) (w : va_W) (h : Int32) : Ct l yX0_blocksOf cX0_blocksOf 4 (some .int) 3 E [.ref (a 2), .int h] (wB E a st w) (blocksC st h) (wB E a st w) := by
  refine Ct_mk RX0 rfl (by decide +kernel) (Nat.le_of_ble_eq_true rfl) ?_
  intro p e s m below meth c A ls X hr G hl
  have hl : lv_has ls 4 [(0, .ref (a 2)), (1, .int h)] := hl
  obtain ⟨hx, hb, hml, hown, hts, hK, hA, hlocks⟩ := id X
  refine lv_iconst (v := 0) hx hb dX0_blocksOf_0 (by decide) ?_
  refine lv_istore_n (lv' := [(2, .int 0), (0, .ref (a 2)), (1, .int h)]) hx hb dX0_blocksOf_1 rfl hl (by decide) rfl (fun ls hl => ?_)
  refine lv_iconst (v := 0) hx hb dX0_blocksOf_2 (by decide) ?_
  refine lv_istore_n (lv' := [(3, .int 0), (2, .int 0), (0, .ref (a 2)), (1, .int h)]) hx hb dX0_blocksOf_3 rfl hl (by decide) rfl (fun ls hl => ?_)
  have LP4 : ∀ (n i : Nat) (k : Int32) (H : Heap) (locs : List Loc) (ls : Array Slot), (i + n = 4) → (orF (fun b => decide (holderC st b = h)) n i k = blocksC st h) → Gw E A s (wB E a st w) H locs → lv_has ls 4 [(0, .ref (a 2)), (1, .int h), (2, .int k), (3, .int (nI i))] → W p l e (rmD 3) s m ([.ref (a 2), .int h] : List Value).toArray below meth c H locs 0 0 (MQ below (CtQ E A (blocksC st h) (wB E a st w)) ([.ref (a 2), .int h] : List Value).toArray s 0 0 A) (F0 m 4 ls []) := by
    intro n
    induction n with
    | zero =>
      intro i k H locs ls hi hR G hl
      refine lv_iload_n hx hb dX0_blocksOf_4 rfl (lv_at hl 3 rfl) ?_
      refine lv_iconst (v := 4) hx hb dX0_blocksOf_5 (by decide) ?_
      refine n_cmp_ge (tgt := 30) i 4 rfl rfl (by omega) (by omega) hx hb dX0_blocksOf_6 (by decide) (fun c1 => ?_) (fun c1 => ?_)
      · skip
        refine lv_iload_n hx hb dX0_blocksOf_30 rfl (lv_at hl 2 rfl) ?_
        exact g_iret X hr G rfl (by rw [← hR]; simp [orF]) dX0_blocksOf_31
      · skip
        exact absurd c1 (by omega)
    | succ n ih4 =>
      intro i k H locs ls hi hR G hl
      refine lv_iload_n hx hb dX0_blocksOf_4 rfl (lv_at hl 3 rfl) ?_
      refine lv_iconst (v := 4) hx hb dX0_blocksOf_5 (by decide) ?_
      refine n_cmp_ge (tgt := 30) i 4 rfl rfl (by omega) (by omega) hx hb dX0_blocksOf_6 (by decide) (fun c2 => ?_) (fun c2 => ?_)
      · skip
        exact absurd c2 (by omega)
      · skip
        refine lv_aload_n hx hb dX0_blocksOf_9 rfl (lv_at hl 0 rfl) ?_
        refine lv_iload_n hx hb dX0_blocksOf_10 rfl (lv_at hl 3 rfl) ?_
        refine g_callV (As := [.int (nI i)]) (rest := []) X kX0_53 (c_X0_holderOf l E a st w i (by omega)) G 2 rfl rfl ⟨Nat.le_of_ble_eq_true rfl, Nat.le_of_ble_eq_true rfl⟩ ⟨Nat.le_refl _, Nat.le_refl _⟩ rfl hl.1 rfl (Nat.le_of_ble_eq_true rfl) dX0_blocksOf_11 (fun H locs G => ?_)
        refine lv_iload_n hx hb dX0_blocksOf_14 rfl (lv_at hl 1 rfl) ?_
        refine lv_icmp_ne (tgt := 24) hx hb dX0_blocksOf_15 (by decide) (fun c3 => ?_) (fun c3 => ?_)
        · skip
          refine lv_iinc (v := nI (i + 1)) (lv' := [(3, .int (nI (i + 1))), (0, .ref (a 2)), (1, .int h), (2, .int k)]) hx hb dX0_blocksOf_24 hl (k := 3) rfl (nI_inc _) (by decide) rfl (fun ls hl => ?_)
          refine lv_goto (tgt := 4) hx hb dX0_blocksOf_27 (by decide) ?_
          exact ih4 (i + 1) k _ _ ls (by omega) (by rw [← hR]; simp [orF, c2, c3]) G (lv_sub hl [1, 2, 3, 0] rfl)
        · skip
          refine lv_iload_n hx hb dX0_blocksOf_18 rfl (lv_at hl 2 rfl) ?_
          refine lv_iconst (v := 1) hx hb dX0_blocksOf_19 (by decide) ?_
          refine lv_iload_n hx hb dX0_blocksOf_20 rfl (lv_at hl 3 rfl) ?_
          refine lv_ishl hx hb dX0_blocksOf_21 ?_
          refine lv_ior hx hb dX0_blocksOf_22 ?_
          refine lv_istore_n (lv' := [(2, .int (k ||| (1 <<< ((nI i) &&& 31)))), (0, .ref (a 2)), (1, .int h), (3, .int (nI i))]) hx hb dX0_blocksOf_23 rfl hl (by decide) rfl (fun ls hl => ?_)
          refine lv_iinc (v := nI (i + 1)) (lv' := [(3, .int (nI (i + 1))), (2, .int (k ||| (1 <<< ((nI i) &&& 31)))), (0, .ref (a 2)), (1, .int h)]) hx hb dX0_blocksOf_24 hl (k := 3) rfl (nI_inc _) (by decide) rfl (fun ls hl => ?_)
          refine lv_goto (tgt := 4) hx hb dX0_blocksOf_27 (by decide) ?_
          exact ih4 (i + 1) (k ||| (1 <<< ((nI i) &&& 31))) _ _ ls (by omega) (by rw [← hR]; simp [orF, c2, c3]) G (lv_sub hl [2, 3, 1, 0] rfl)
  exact LP4 4 0 0 _ _ ls (by omega) rfl G (lv_sub hl [2, 3, 1, 0] rfl)
set_option maxHeartbeats 4000000 in
set_option maxRecDepth 100000 in
theorem c_X2_isKnown (l : Launch) (E : EE) (a : Nat → Nat) (st : St) (w : va_W) (k : Nat) (hk : k < 32) : Ct l yX2_isKnown cX2_isKnown 2 (some .boolean) 0 E [.ref (a 3), .int (nI k)] (wB E a st w) (bI (knownC st k)) (wB E a st w) := by
  refine Ct_mk RX2 rfl (by decide +kernel) (Nat.le_of_ble_eq_true rfl) ?_
  intro p e s m below meth c A ls X hr G hl
  have hl : lv_has ls 2 [(0, .ref (a 3)), (1, .int (nI k))] := hl
  obtain ⟨hx, hb, hml, hown, hts, hK, hA, hlocks⟩ := id X
  refine lv_aload_n hx hb dX2_isKnown_0 rfl (lv_at hl 0 rfl) ?_
  refine g_get X G fX2_9 3 rfl rfl dX2_isKnown_1 ?_
  refine lv_iload_n hx hb dX2_isKnown_4 rfl (lv_at hl 1 rfl) ?_
  refine g_iald (j := k) X G 10 rfl rfl (by omega) (by decide) dX2_isKnown_5 ?_
  refine lv_bipush (v := (-6)) hx hb dX2_isKnown_6 (by decide) ?_
  refine lv_icmp_eq (tgt := 15) hx hb dX2_isKnown_8 (by decide) (fun c1 => ?_) (fun c1 => ?_)
  · skip
    refine lv_iconst (v := 0) hx hb dX2_isKnown_15 (by decide) ?_
    exact g_ret X hr rfl G rfl (by simp [knownC, bI, c1]) dX2_isKnown_16
  · skip
    refine lv_iconst (v := 1) hx hb dX2_isKnown_11 (by decide) ?_
    refine lv_goto (tgt := 16) hx hb dX2_isKnown_12 (by decide) ?_
    exact g_ret X hr rfl G rfl (by simp [knownC, bI, c1]) dX2_isKnown_16
set_option maxHeartbeats 4000000 in
set_option maxRecDepth 100000 in
theorem c_X2_know (l : Launch) (E : EE) (a : Nat → Nat) (st : St) (w : va_W) (k : Nat) (hk : k < 32) (o : Int32) (t : Int32) : Cv l yX2_know cX2_know 4 0 E [.ref (a 3), .int (nI k), .int o, .int t] (wB E a st w) (wB E a (sU (sU st 7 k o) 8 k t) w) := by
  refine Cv_mk RX2 rfl (by decide +kernel) (Nat.le_of_ble_eq_true rfl) ?_
  intro p e s m below meth c A ls X hr G hl
  have hl : lv_has ls 4 [(0, .ref (a 3)), (1, .int (nI k)), (2, .int o), (3, .int t)] := hl
  obtain ⟨hx, hb, hml, hown, hts, hK, hA, hlocks⟩ := id X
  refine lv_aload_n hx hb dX2_know_0 rfl (lv_at hl 0 rfl) ?_
  refine g_get X G fX2_9 3 rfl rfl dX2_know_1 ?_
  refine lv_iload_n hx hb dX2_know_4 rfl (lv_at hl 1 rfl) ?_
  refine lv_iload_n hx hb dX2_know_5 rfl (lv_at hl 2 rfl) ?_
  refine g_iast (j := k) X G 10 rfl rfl (by omega) (by decide) dX2_know_6 (fun H locs G => ?_)
  have G : Gw E A s (wB E a (sU st 7 k o) w) H locs := G
  refine lv_aload_n hx hb dX2_know_7 rfl (lv_at hl 0 rfl) ?_
  refine g_get X G fX2_15 3 rfl rfl dX2_know_8 ?_
  refine lv_iload_n hx hb dX2_know_11 rfl (lv_at hl 1 rfl) ?_
  refine lv_iload_n hx hb dX2_know_12 rfl (lv_at hl 3 rfl) ?_
  refine g_iast (j := k) X G 11 rfl rfl (by omega) (by decide) dX2_know_13 (fun H locs G => ?_)
  have G : Gw E A s (wB E a (sU (sU st 7 k o) 8 k t) w) H locs := G
  exact g_vret X hr G rfl dX2_know_14
set_option maxHeartbeats 4000000 in
set_option maxRecDepth 100000 in
theorem c_X2_forget (l : Launch) (E : EE) (a : Nat → Nat) (st : St) (w : va_W) (k : Nat) (hk : k < 32) : Cv l yX2_forget cX2_forget 2 0 E [.ref (a 3), .int (nI k)] (wB E a st w) (wB E a (sU st 7 k (-6)) w) := by
  refine Cv_mk RX2 rfl (by decide +kernel) (Nat.le_of_ble_eq_true rfl) ?_
  intro p e s m below meth c A ls X hr G hl
  have hl : lv_has ls 2 [(0, .ref (a 3)), (1, .int (nI k))] := hl
  obtain ⟨hx, hb, hml, hown, hts, hK, hA, hlocks⟩ := id X
  refine lv_aload_n hx hb dX2_forget_0 rfl (lv_at hl 0 rfl) ?_
  refine g_get X G fX2_9 3 rfl rfl dX2_forget_1 ?_
  refine lv_iload_n hx hb dX2_forget_4 rfl (lv_at hl 1 rfl) ?_
  refine lv_bipush (v := (-6)) hx hb dX2_forget_5 (by decide) ?_
  refine g_iast (j := k) X G 10 rfl rfl (by omega) (by decide) dX2_forget_7 (fun H locs G => ?_)
  have G : Gw E A s (wB E a (sU st 7 k (-6)) w) H locs := G
  exact g_vret X hr G rfl dX2_forget_8
set_option maxHeartbeats 4000000 in
set_option maxRecDepth 100000 in
theorem c_X2_forgetAllOf (l : Launch) (E : EE) (a : Nat → Nat) (st : St) (w : va_W) (o : Int32) : Cv l yX2_forgetAllOf cX2_forgetAllOf 3 1 E [.ref (a 3), .int o] (wB E a st w) (wB E a (iF (forgetAllC o) 32 0 st) w) := by
  refine Cv_mk RX2 rfl (by decide +kernel) (Nat.le_of_ble_eq_true rfl) ?_
  intro p e s m below meth c A ls X hr G hl
  have hl : lv_has ls 3 [(0, .ref (a 3)), (1, .int o)] := hl
  obtain ⟨hx, hb, hml, hown, hts, hK, hA, hlocks⟩ := id X
  refine lv_iconst (v := 0) hx hb dX2_forgetAllOf_0 (by decide) ?_
  refine lv_istore_n (lv' := [(2, .int 0), (0, .ref (a 3)), (1, .int o)]) hx hb dX2_forgetAllOf_1 rfl hl (by decide) rfl (fun ls hl => ?_)
  have LP2 : ∀ (n i : Nat) (sx : St) (H : Heap) (locs : List Loc) (ls : Array Slot), (i + n = 32) → (iF (forgetAllC o) n i sx = iF (forgetAllC o) 32 0 st) → Gw E A s (wB E a sx w) H locs → lv_has ls 3 [(0, .ref (a 3)), (1, .int o), (2, .int (nI i))] → W p l e (rmD 1) s m ([.ref (a 3), .int o] : List Value).toArray below meth c H locs 0 0 (MQ below (CvQ E A (wB E a (iF (forgetAllC o) 32 0 st) w)) ([.ref (a 3), .int o] : List Value).toArray s 0 0 A) (F0 m 2 ls []) := by
    intro n
    induction n with
    | zero =>
      intro i sx H locs ls hi hR G hl
      refine lv_iload_n hx hb dX2_forgetAllOf_2 rfl (lv_at hl 2 rfl) ?_
      refine lv_bipush (v := 32) hx hb dX2_forgetAllOf_3 (by decide) ?_
      refine n_cmp_ge (tgt := 29) i 32 rfl rfl (by omega) (by omega) hx hb dX2_forgetAllOf_5 (by decide) (fun c1 => ?_) (fun c1 => ?_)
      · skip
        exact g_vret X hr G (congrArg (fun z => wB E a z w) (by rw [← hR]; rfl)) dX2_forgetAllOf_29
      · skip
        exact absurd c1 (by omega)
    | succ n ih2 =>
      intro i sx H locs ls hi hR G hl
      refine lv_iload_n hx hb dX2_forgetAllOf_2 rfl (lv_at hl 2 rfl) ?_
      refine lv_bipush (v := 32) hx hb dX2_forgetAllOf_3 (by decide) ?_
      refine n_cmp_ge (tgt := 29) i 32 rfl rfl (by omega) (by omega) hx hb dX2_forgetAllOf_5 (by decide) (fun c2 => ?_) (fun c2 => ?_)
      · skip
        exact absurd c2 (by omega)
      · skip
        refine lv_aload_n hx hb dX2_forgetAllOf_8 rfl (lv_at hl 0 rfl) ?_
        refine g_get X G fX2_9 3 rfl rfl dX2_forgetAllOf_9 ?_
        refine lv_iload_n hx hb dX2_forgetAllOf_12 rfl (lv_at hl 2 rfl) ?_
        refine g_iald (j := i) X G 10 rfl rfl (by omega) (by decide) dX2_forgetAllOf_13 ?_
        refine lv_iload_n hx hb dX2_forgetAllOf_14 rfl (lv_at hl 1 rfl) ?_
        refine lv_icmp_ne (tgt := 23) hx hb dX2_forgetAllOf_15 (by decide) (fun c3 => ?_) (fun c3 => ?_)
        · skip
          refine lv_iinc (v := nI (i + 1)) (lv' := [(2, .int (nI (i + 1))), (0, .ref (a 3)), (1, .int o)]) hx hb dX2_forgetAllOf_23 hl (k := 2) rfl (nI_inc _) (by decide) rfl (fun ls hl => ?_)
          refine lv_goto (tgt := 2) hx hb dX2_forgetAllOf_26 (by decide) ?_
          exact ih2 (i + 1) sx _ _ ls (by omega) (by rw [← hR]; simp [iF, forgetAllC, c2, c3]) G (lv_sub hl [1, 2, 0] rfl)
        · skip
          refine lv_aload_n hx hb dX2_forgetAllOf_18 rfl (lv_at hl 0 rfl) ?_
          refine lv_iload_n hx hb dX2_forgetAllOf_19 rfl (lv_at hl 2 rfl) ?_
          refine g_callVv (As := [.int (nI i)]) (rest := []) X kX2_30 (c_X2_forget l E a sx w i (by omega)) G 3 rfl rfl ⟨Nat.le_of_ble_eq_true rfl, Nat.le_of_ble_eq_true rfl⟩ ⟨Nat.le_refl _, Nat.le_refl _⟩ rfl hl.1 rfl (Nat.le_of_ble_eq_true rfl) dX2_forgetAllOf_20 (fun H locs G => ?_)
          refine lv_iinc (v := nI (i + 1)) (lv' := [(2, .int (nI (i + 1))), (0, .ref (a 3)), (1, .int o)]) hx hb dX2_forgetAllOf_23 hl (k := 2) rfl (nI_inc _) (by decide) rfl (fun ls hl => ?_)
          refine lv_goto (tgt := 2) hx hb dX2_forgetAllOf_26 (by decide) ?_
          exact ih2 (i + 1) (sU sx 7 i (-6)) _ _ ls (by omega) (by rw [← hR]; simp [iF, forgetAllC, c2, c3]) G (lv_sub hl [1, 2, 0] rfl)
  exact LP2 32 0 st _ _ ls (by omega) rfl G (lv_sub hl [1, 2, 0] rfl)
set_option maxHeartbeats 4000000 in
set_option maxRecDepth 100000 in
theorem c_X2_placeOf (l : Launch) (E : EE) (a : Nat → Nat) (st : St) (w : va_W) (v : Int32) : Ct l yX2_placeOf cX2_placeOf 3 (some .int) 0 E [.ref (a 3), .int v] (wB E a st w) (oI (placeO st v)) (wB E a st w) := by
  refine Ct_mk RX2 rfl (by decide +kernel) (Nat.le_of_ble_eq_true rfl) ?_
  intro p e s m below meth c A ls X hr G hl
  have hl : lv_has ls 3 [(0, .ref (a 3)), (1, .int v)] := hl
  obtain ⟨hx, hb, hml, hown, hts, hK, hA, hlocks⟩ := id X
  refine lv_iconst (v := 0) hx hb dX2_placeOf_0 (by decide) ?_
  refine lv_istore_n (lv' := [(2, .int 0), (0, .ref (a 3)), (1, .int v)]) hx hb dX2_placeOf_1 rfl hl (by decide) rfl (fun ls hl => ?_)
  have LP2 : ∀ (n i : Nat)  (H : Heap) (locs : List Loc) (ls : Array Slot), (i + n = 6) → (oI (fF (placeP st v) n i) = oI (placeO st v)) → Gw E A s (wB E a st w) H locs → lv_has ls 3 [(0, .ref (a 3)), (1, .int v), (2, .int (nI i))] → W p l e (rmD 0) s m ([.ref (a 3), .int v] : List Value).toArray below meth c H locs 0 0 (MQ below (CtQ E A (oI (placeO st v)) (wB E a st w)) ([.ref (a 3), .int v] : List Value).toArray s 0 0 A) (F0 m 2 ls []) := by
    intro n
    induction n with
    | zero =>
      intro i  H locs ls hi hR G hl
      refine lv_iload_n hx hb dX2_placeOf_2 rfl (lv_at hl 2 rfl) ?_
      refine lv_bipush (v := 6) hx hb dX2_placeOf_3 (by decide) ?_
      refine n_cmp_ge (tgt := 26) i 6 rfl rfl (by omega) (by omega) hx hb dX2_placeOf_5 (by decide) (fun c1 => ?_) (fun c1 => ?_)
      · skip
        refine lv_bipush (v := (-6)) hx hb dX2_placeOf_26 (by decide) ?_
        exact g_iret X hr G rfl (by rw [← hR]; simp [fF, placeP, oI, c1]) dX2_placeOf_28
      · skip
        exact absurd c1 (by omega)
    | succ n ih2 =>
      intro i  H locs ls hi hR G hl
      refine lv_iload_n hx hb dX2_placeOf_2 rfl (lv_at hl 2 rfl) ?_
      refine lv_bipush (v := 6) hx hb dX2_placeOf_3 (by decide) ?_
      refine n_cmp_ge (tgt := 26) i 6 rfl rfl (by omega) (by omega) hx hb dX2_placeOf_5 (by decide) (fun c2 => ?_) (fun c2 => ?_)
      · skip
        exact absurd c2 (by omega)
      · skip
        refine lv_aload_n hx hb dX2_placeOf_8 rfl (lv_at hl 0 rfl) ?_
        refine g_get X G fX2_18 3 rfl rfl dX2_placeOf_9 ?_
        refine lv_iload_n hx hb dX2_placeOf_12 rfl (lv_at hl 2 rfl) ?_
        refine g_iald (j := i) X G 12 rfl rfl (by omega) (by decide) dX2_placeOf_13 ?_
        refine lv_iload_n hx hb dX2_placeOf_14 rfl (lv_at hl 1 rfl) ?_
        refine lv_icmp_ne (tgt := 20) hx hb dX2_placeOf_15 (by decide) (fun c3 => ?_) (fun c3 => ?_)
        · skip
          refine lv_iinc (v := nI (i + 1)) (lv' := [(2, .int (nI (i + 1))), (0, .ref (a 3)), (1, .int v)]) hx hb dX2_placeOf_20 hl (k := 2) rfl (nI_inc _) (by decide) rfl (fun ls hl => ?_)
          refine lv_goto (tgt := 2) hx hb dX2_placeOf_23 (by decide) ?_
          exact ih2 (i + 1)  _ _ ls (by omega) (by rw [← hR]; simp [fF, placeP, c2, c3]) G (lv_sub hl [1, 2, 0] rfl)
        · skip
          refine lv_iload_n hx hb dX2_placeOf_18 rfl (lv_at hl 2 rfl) ?_
          exact g_iret X hr G rfl (by rw [← hR]; simp [fF, placeP, oI, c2, c3]) dX2_placeOf_19
  exact LP2 6 0  _ _ ls (by omega) rfl G (lv_sub hl [1, 2, 0] rfl)
set_option maxHeartbeats 4000000 in
set_option maxRecDepth 100000 in
theorem c_X2_hold (l : Launch) (E : EE) (a : Nat → Nat) (st : St) (w : va_W) (k : Nat) (hk : k < 32) (pt : Nat) (hpt : pt < 8) (t : Int32) : Ct l yX2_hold cX2_hold 6 (some .int) 1 E [.ref (a 3), .int (nI k), .int (nI pt), .int t] (wB E a st w) ((holdC st (nI (k * 8 + pt)) t).1) (wB E a ((holdC st (nI (k * 8 + pt)) t).2) w) := by
  refine Ct_mk RX2 rfl (by decide +kernel) (Nat.le_of_ble_eq_true rfl) ?_
  intro p e s m below meth c A ls X hr G hl
  have hl : lv_has ls 6 [(0, .ref (a 3)), (1, .int (nI k)), (2, .int (nI pt)), (3, .int t)] := hl
  obtain ⟨hx, hb, hml, hown, hts, hK, hA, hlocks⟩ := id X
  refine lv_iload_n hx hb dX2_hold_0 rfl (lv_at hl 1 rfl) ?_
  refine lv_bipush (v := 8) hx hb dX2_hold_1 (by decide) ?_
  refine n_imul k 8 rfl rfl hx hb dX2_hold_3 ?_
  refine lv_iload_n hx hb dX2_hold_4 rfl (lv_at hl 2 rfl) ?_
  refine n_iadd (k * 8) pt rfl rfl hx hb dX2_hold_5 ?_
  refine lv_istore (lv' := [(4, .int (nI ((k * 8) + pt))), (0, .ref (a 3)), (1, .int (nI k)), (2, .int (nI pt)), (3, .int t)]) hx hb dX2_hold_6 hl (by decide) rfl (fun ls hl => ?_)
  refine lv_aload_n hx hb dX2_hold_8 rfl (lv_at hl 1 rfl) ?_
  refine lv_iload hx hb dX2_hold_9 (lv_at hl 0 rfl) ?_
  refine g_callV (As := [.int (nI ((k * 8) + pt))]) (rest := []) X kX2_34 (c_X2_placeOf l E a st w (nI ((k * 8) + pt))) G 3 rfl rfl ⟨Nat.le_of_ble_eq_true rfl, Nat.le_of_ble_eq_true rfl⟩ ⟨Nat.le_refl _, Nat.le_refl _⟩ rfl hl.1 rfl (Nat.le_of_ble_eq_true rfl) dX2_hold_11 (fun H locs G => ?_)
  refine o_split (fun c2 => ?_) (fun j1 c3 => ?_)
  · skip
    refine lv_bipush (v := (-6)) hx hb dX2_hold_14 (by decide) ?_
    refine lv_icmp_eq (tgt := 21) hx hb dX2_hold_16 (by decide) (fun c4 => ?_) (fun c4 => ?_)
    · skip
      refine lv_aload_n hx hb dX2_hold_21 rfl (lv_at hl 1 rfl) ?_
      refine lv_bipush (v := (-6)) hx hb dX2_hold_22 (by decide) ?_
      refine g_callV (As := [.int (-6)]) (rest := []) X kX2_34 (c_X2_placeOf l E a st w (-6)) G 3 rfl rfl ⟨Nat.le_of_ble_eq_true rfl, Nat.le_of_ble_eq_true rfl⟩ ⟨Nat.le_refl _, Nat.le_refl _⟩ rfl hl.1 rfl (Nat.le_of_ble_eq_true rfl) dX2_hold_24 (fun H locs G => ?_)
      refine o_split (fun c6 => ?_) (fun j5 c7 => ?_)
      · skip
        refine lv_istore (lv' := [(5, .int (-6)), (4, .int (nI ((k * 8) + pt))), (0, .ref (a 3)), (1, .int (nI k)), (2, .int (nI pt)), (3, .int t)]) hx hb dX2_hold_27 hl (by decide) rfl (fun ls hl => ?_)
        refine lv_iload hx hb dX2_hold_29 (lv_at hl 0 rfl) ?_
        refine lv_bipush (v := (-6)) hx hb dX2_hold_31 (by decide) ?_
        refine lv_icmp_ne (tgt := 39) hx hb dX2_hold_33 (by decide) (fun c8 => ?_) (fun c8 => ?_)
        · skip
          exact absurd c8 (by decide)
        · skip
          refine lv_bipush (v := (-4)) hx hb dX2_hold_36 (by decide) ?_
          exact g_iret X hr G (congrArg (fun z => wB E a z w) (by simp [holdC, c2, c6])) (by simp [holdC, c2, c6]) dX2_hold_38
      · skip
        have bj5 : j5 < 6 := placeO_lt c7
        refine lv_istore (lv' := [(5, .int (nI j5)), (4, .int (nI ((k * 8) + pt))), (0, .ref (a 3)), (1, .int (nI k)), (2, .int (nI pt)), (3, .int t)]) hx hb dX2_hold_27 hl (by decide) rfl (fun ls hl => ?_)
        refine lv_iload hx hb dX2_hold_29 (lv_at hl 0 rfl) ?_
        refine lv_bipush (v := (-6)) hx hb dX2_hold_31 (by decide) ?_
        refine lv_icmp_ne (tgt := 39) hx hb dX2_hold_33 (by decide) (fun c9 => ?_) (fun c9 => ?_)
        · skip
          refine lv_aload_n hx hb dX2_hold_39 rfl (lv_at hl 2 rfl) ?_
          refine g_get X G fX2_18 3 rfl rfl dX2_hold_40 ?_
          refine lv_iload hx hb dX2_hold_43 (lv_at hl 0 rfl) ?_
          refine lv_iload hx hb dX2_hold_45 (lv_at hl 1 rfl) ?_
          refine g_iast (j := j5) X G 12 rfl rfl (by omega) (by decide) dX2_hold_47 (fun H locs G => ?_)
          have G : Gw E A s (wB E a (sU st 9 j5 (nI ((k * 8) + pt))) w) H locs := G
          refine lv_aload_n hx hb dX2_hold_48 rfl (lv_at hl 2 rfl) ?_
          refine g_get X G fX2_21 3 rfl rfl dX2_hold_49 ?_
          refine lv_iload hx hb dX2_hold_52 (lv_at hl 0 rfl) ?_
          refine lv_iload_n hx hb dX2_hold_54 rfl (lv_at hl 5 rfl) ?_
          refine g_iast (j := j5) X G 13 rfl rfl (by omega) (by decide) dX2_hold_55 (fun H locs G => ?_)
          have G : Gw E A s (wB E a (sU (sU st 9 j5 (nI ((k * 8) + pt))) 10 j5 t) w) H locs := G
          refine lv_iconst (v := 0) hx hb dX2_hold_56 (by decide) ?_
          exact g_iret X hr G (congrArg (fun z => wB E a z w) (by simp [holdC, c2, c7])) (by simp [holdC, c2, c7]) dX2_hold_57
        · skip
          exact absurd c9 (nI_m6 (by omega))
    · skip
      exact absurd c4 (by decide)
  · skip
    have bj1 : j1 < 6 := placeO_lt c3
    refine lv_bipush (v := (-6)) hx hb dX2_hold_14 (by decide) ?_
    refine lv_icmp_eq (tgt := 21) hx hb dX2_hold_16 (by decide) (fun c10 => ?_) (fun c10 => ?_)
    · skip
      exact absurd c10 (nI_m6 (by omega))
    · skip
      refine lv_iconst (v := 0) hx hb dX2_hold_19 (by decide) ?_
      exact g_iret X hr G (congrArg (fun z => wB E a z w) (by simp [holdC, c3])) (by simp [holdC, c3]) dX2_hold_20
set_option maxHeartbeats 4000000 in
set_option maxRecDepth 100000 in
theorem c_X2_releaseHeld (l : Launch) (E : EE) (a : Nat → Nat) (st : St) (w : va_W) (k : Int32) : Ct l yX2_releaseHeld cX2_releaseHeld 4 (some .int) 0 E [.ref (a 3), .int k] (wB E a st w) (nI ((iF (relS k) 6 0 (st, 0)).2)) (wB E a ((iF (relS k) 6 0 (st, 0)).1) w) := by
  refine Ct_mk RX2 rfl (by decide +kernel) (Nat.le_of_ble_eq_true rfl) ?_
  intro p e s m below meth c A ls X hr G hl
  have hl : lv_has ls 4 [(0, .ref (a 3)), (1, .int k)] := hl
  obtain ⟨hx, hb, hml, hown, hts, hK, hA, hlocks⟩ := id X
  refine lv_iconst (v := 0) hx hb dX2_releaseHeld_0 (by decide) ?_
  refine lv_istore_n (lv' := [(2, .int 0), (0, .ref (a 3)), (1, .int k)]) hx hb dX2_releaseHeld_1 rfl hl (by decide) rfl (fun ls hl => ?_)
  refine lv_iconst (v := 0) hx hb dX2_releaseHeld_2 (by decide) ?_
  refine lv_istore_n (lv' := [(3, .int 0), (2, .int 0), (0, .ref (a 3)), (1, .int k)]) hx hb dX2_releaseHeld_3 rfl hl (by decide) rfl (fun ls hl => ?_)
  have LP4 : ∀ (n i : Nat) (sx : St) (z : Nat) (H : Heap) (locs : List Loc) (ls : Array Slot), (i + n = 6) → (iF (relS k) n i (sx, z) = iF (relS k) 6 0 (st, 0)) → Gw E A s (wB E a sx w) H locs → lv_has ls 4 [(0, .ref (a 3)), (1, .int k), (2, .int (nI z)), (3, .int (nI i))] → W p l e (rmD 0) s m ([.ref (a 3), .int k] : List Value).toArray below meth c H locs 0 0 (MQ below (CtQ E A (nI ((iF (relS k) 6 0 (st, 0)).2)) (wB E a ((iF (relS k) 6 0 (st, 0)).1) w)) ([.ref (a 3), .int k] : List Value).toArray s 0 0 A) (F0 m 4 ls []) := by
    intro n
    induction n with
    | zero =>
      intro i sx z H locs ls hi hR G hl
      refine lv_iload_n hx hb dX2_releaseHeld_4 rfl (lv_at hl 3 rfl) ?_
      refine lv_bipush (v := 6) hx hb dX2_releaseHeld_5 (by decide) ?_
      refine n_cmp_ge (tgt := 51) i 6 rfl rfl (by omega) (by omega) hx hb dX2_releaseHeld_7 (by decide) (fun c1 => ?_) (fun c1 => ?_)
      · skip
        refine lv_iload_n hx hb dX2_releaseHeld_51 rfl (lv_at hl 2 rfl) ?_
        exact g_iret X hr G (congrArg (fun z => wB E a z w) (by rw [← hR]; rfl)) (by rw [← hR]; rfl) dX2_releaseHeld_52
      · skip
        exact absurd c1 (by omega)
    | succ n ih4 =>
      intro i sx z H locs ls hi hR G hl
      refine lv_iload_n hx hb dX2_releaseHeld_4 rfl (lv_at hl 3 rfl) ?_
      refine lv_bipush (v := 6) hx hb dX2_releaseHeld_5 (by decide) ?_
      refine n_cmp_ge (tgt := 51) i 6 rfl rfl (by omega) (by omega) hx hb dX2_releaseHeld_7 (by decide) (fun c2 => ?_) (fun c2 => ?_)
      · skip
        exact absurd c2 (by omega)
      · skip
        refine lv_aload_n hx hb dX2_releaseHeld_10 rfl (lv_at hl 0 rfl) ?_
        refine g_get X G fX2_18 3 rfl rfl dX2_releaseHeld_11 ?_
        refine lv_iload_n hx hb dX2_releaseHeld_14 rfl (lv_at hl 3 rfl) ?_
        refine g_iald (j := i) X G 12 rfl rfl (by omega) (by decide) dX2_releaseHeld_15 ?_
        refine lv_bipush (v := (-6)) hx hb dX2_releaseHeld_16 (by decide) ?_
        refine lv_icmp_eq (tgt := 45) hx hb dX2_releaseHeld_18 (by decide) (fun c3 => ?_) (fun c3 => ?_)
        · skip
          refine lv_iinc (v := nI (i + 1)) (lv' := [(3, .int (nI (i + 1))), (0, .ref (a 3)), (1, .int k), (2, .int (nI z))]) hx hb dX2_releaseHeld_45 hl (k := 3) rfl (nI_inc _) (by decide) rfl (fun ls hl => ?_)
          refine lv_goto (tgt := 4) hx hb dX2_releaseHeld_48 (by decide) ?_
          exact ih4 (i + 1) sx z _ _ ls (by omega) (by rw [← hR]; simp [iF, relS, relP, c2, c3]) G (lv_sub hl [1, 2, 3, 0] rfl)
        · skip
          refine lv_aload_n hx hb dX2_releaseHeld_21 rfl (lv_at hl 0 rfl) ?_
          refine g_get X G fX2_18 3 rfl rfl dX2_releaseHeld_22 ?_
          refine lv_iload_n hx hb dX2_releaseHeld_25 rfl (lv_at hl 3 rfl) ?_
          refine g_iald (j := i) X G 12 rfl rfl (by omega) (by decide) dX2_releaseHeld_26 ?_
          refine lv_bipush (v := 8) hx hb dX2_releaseHeld_27 (by decide) ?_
          refine lv_idiv hx hb dX2_releaseHeld_29 (by decide) ?_
          refine lv_iload_n hx hb dX2_releaseHeld_30 rfl (lv_at hl 1 rfl) ?_
          refine lv_icmp_ne (tgt := 45) hx hb dX2_releaseHeld_31 (by decide) (fun c4 => ?_) (fun c4 => ?_)
          · skip
            refine lv_iinc (v := nI (i + 1)) (lv' := [(3, .int (nI (i + 1))), (0, .ref (a 3)), (1, .int k), (2, .int (nI z))]) hx hb dX2_releaseHeld_45 hl (k := 3) rfl (nI_inc _) (by decide) rfl (fun ls hl => ?_)
            refine lv_goto (tgt := 4) hx hb dX2_releaseHeld_48 (by decide) ?_
            exact ih4 (i + 1) sx z _ _ ls (by omega) (by rw [← hR]; simp [iF, relS, relP, c2, c3, c4]) G (lv_sub hl [1, 2, 3, 0] rfl)
          · skip
            refine lv_aload_n hx hb dX2_releaseHeld_34 rfl (lv_at hl 0 rfl) ?_
            refine g_get X G fX2_18 3 rfl rfl dX2_releaseHeld_35 ?_
            refine lv_iload_n hx hb dX2_releaseHeld_38 rfl (lv_at hl 3 rfl) ?_
            refine lv_bipush (v := (-6)) hx hb dX2_releaseHeld_39 (by decide) ?_
            refine g_iast (j := i) X G 12 rfl rfl (by omega) (by decide) dX2_releaseHeld_41 (fun H locs G => ?_)
            have G : Gw E A s (wB E a (sU sx 9 i (-6)) w) H locs := G
            refine lv_iinc (v := nI (z + 1)) (lv' := [(2, .int (nI (z + 1))), (0, .ref (a 3)), (1, .int k), (3, .int (nI i))]) hx hb dX2_releaseHeld_42 hl (k := 2) rfl (nI_inc _) (by decide) rfl (fun ls hl => ?_)
            refine lv_iinc (v := nI (i + 1)) (lv' := [(3, .int (nI (i + 1))), (2, .int (nI (z + 1))), (0, .ref (a 3)), (1, .int k)]) hx hb dX2_releaseHeld_45 hl (k := 3) rfl (nI_inc _) (by decide) rfl (fun ls hl => ?_)
            refine lv_goto (tgt := 4) hx hb dX2_releaseHeld_48 (by decide) ?_
            exact ih4 (i + 1) (sU sx 9 i (-6)) (z + 1) _ _ ls (by omega) (by rw [← hR]; simp [iF, relS, relP, c2, c3, c4]) G (lv_sub hl [2, 3, 1, 0] rfl)
  exact LP4 6 0 st 0 _ _ ls (by omega) rfl G (lv_sub hl [2, 3, 1, 0] rfl)
set_option maxHeartbeats 4000000 in
set_option maxRecDepth 100000 in
theorem c_X2_endOld (l : Launch) (E : EE) (a : Nat → Nat) (st : St) (w : va_W) (t : Int32) : Cv l yX2_endOld cX2_endOld 3 1 E [.ref (a 3), .int t] (wB E a st w) (wB E a (endOldC st t) w) := by
  refine Cv_mk RX2 rfl (by decide +kernel) (Nat.le_of_ble_eq_true rfl) ?_
  intro p e s m below meth c A ls X hr G hl
  have hl : lv_has ls 3 [(0, .ref (a 3)), (1, .int t)] := hl
  obtain ⟨hx, hb, hml, hown, hts, hK, hA, hlocks⟩ := id X
  refine lv_iconst (v := 0) hx hb dX2_endOld_0 (by decide) ?_
  refine lv_istore_n (lv' := [(2, .int 0), (0, .ref (a 3)), (1, .int t)]) hx hb dX2_endOld_1 rfl hl (by decide) rfl (fun ls hl => ?_)
  have LP2 : ∀ (n i : Nat) (sx : St) (H : Heap) (locs : List Loc) (ls : Array Slot), (i + n = 32) → (iF (oldK t) n i sx = iF (oldK t) 32 0 st) → Gw E A s (wB E a sx w) H locs → lv_has ls 3 [(0, .ref (a 3)), (1, .int t), (2, .int (nI i))] → W p l e (rmD 1) s m ([.ref (a 3), .int t] : List Value).toArray below meth c H locs 0 0 (MQ below (CvQ E A (wB E a (endOldC st t) w)) ([.ref (a 3), .int t] : List Value).toArray s 0 0 A) (F0 m 2 ls []) := by
    intro n
    induction n with
    | zero =>
      intro i sx H locs ls hi hR G hl
      refine lv_iload_n hx hb dX2_endOld_2 rfl (lv_at hl 2 rfl) ?_
      refine lv_bipush (v := 32) hx hb dX2_endOld_3 (by decide) ?_
      refine n_cmp_ge (tgt := 39) i 32 rfl rfl (by omega) (by omega) hx hb dX2_endOld_5 (by decide) (fun c1 => ?_) (fun c1 => ?_)
      · skip
        refine lv_iconst (v := 0) hx hb dX2_endOld_39 (by decide) ?_
        refine lv_istore_n (lv' := [(2, .int 0), (0, .ref (a 3)), (1, .int t)]) hx hb dX2_endOld_40 rfl hl (by decide) rfl (fun ls hl => ?_)
        have LP41 : ∀ (n2 i2 : Nat) (sy : St) (H : Heap) (locs : List Loc) (ls : Array Slot), (i2 + n2 = 6) → (iF (oldH t) n2 i2 sy = endOldC st t) → Gw E A s (wB E a sy w) H locs → lv_has ls 3 [(0, .ref (a 3)), (1, .int t), (2, .int (nI i2))] → W p l e (rmD 1) s m ([.ref (a 3), .int t] : List Value).toArray below meth c H locs 0 0 (MQ below (CvQ E A (wB E a (endOldC st t) w)) ([.ref (a 3), .int t] : List Value).toArray s 0 0 A) (F0 m 41 ls []) := by
          intro n2
          induction n2 with
          | zero =>
            intro i2 sy H locs ls hi2 hR2 G hl
            refine lv_iload_n hx hb dX2_endOld_41 rfl (lv_at hl 2 rfl) ?_
            refine lv_bipush (v := 6) hx hb dX2_endOld_42 (by decide) ?_
            refine n_cmp_ge (tgt := 84) i2 6 rfl rfl (by omega) (by omega) hx hb dX2_endOld_44 (by decide) (fun c2 => ?_) (fun c2 => ?_)
            · skip
              exact g_vret X hr G (congrArg (fun z => wB E a z w) (by rw [← hR2]; rfl)) dX2_endOld_84
            · skip
              exact absurd c2 (by omega)
          | succ n2 ih41 =>
            intro i2 sy H locs ls hi2 hR2 G hl
            refine lv_iload_n hx hb dX2_endOld_41 rfl (lv_at hl 2 rfl) ?_
            refine lv_bipush (v := 6) hx hb dX2_endOld_42 (by decide) ?_
            refine n_cmp_ge (tgt := 84) i2 6 rfl rfl (by omega) (by omega) hx hb dX2_endOld_44 (by decide) (fun c3 => ?_) (fun c3 => ?_)
            · skip
              exact absurd c3 (by omega)
            · skip
              refine lv_aload_n hx hb dX2_endOld_47 rfl (lv_at hl 0 rfl) ?_
              refine g_get X G fX2_18 3 rfl rfl dX2_endOld_48 ?_
              refine lv_iload_n hx hb dX2_endOld_51 rfl (lv_at hl 2 rfl) ?_
              refine g_iald (j := i2) X G 12 rfl rfl (by omega) (by decide) dX2_endOld_52 ?_
              refine lv_bipush (v := (-6)) hx hb dX2_endOld_53 (by decide) ?_
              refine lv_icmp_eq (tgt := 78) hx hb dX2_endOld_55 (by decide) (fun c4 => ?_) (fun c4 => ?_)
              · skip
                refine lv_iinc (v := nI (i2 + 1)) (lv' := [(2, .int (nI (i2 + 1))), (0, .ref (a 3)), (1, .int t)]) hx hb dX2_endOld_78 hl (k := 2) rfl (nI_inc _) (by decide) rfl (fun ls hl => ?_)
                refine lv_goto (tgt := 41) hx hb dX2_endOld_81 (by decide) ?_
                exact ih41 (i2 + 1) sy _ _ ls (by omega) (by rw [← hR2]; simp [iF, oldH, c3, c4]) G (lv_sub hl [1, 2, 0] rfl)
              · skip
                refine lv_iload_n hx hb dX2_endOld_58 rfl (lv_at hl 1 rfl) ?_
                refine lv_aload_n hx hb dX2_endOld_59 rfl (lv_at hl 0 rfl) ?_
                refine g_get X G fX2_21 3 rfl rfl dX2_endOld_60 ?_
                refine lv_iload_n hx hb dX2_endOld_63 rfl (lv_at hl 2 rfl) ?_
                refine g_iald (j := i2) X G 13 rfl rfl (by omega) (by decide) dX2_endOld_64 ?_
                refine lv_isub hx hb dX2_endOld_65 ?_
                refine lv_iconst (v := 5) hx hb dX2_endOld_66 (by decide) ?_
                refine lv_icmp_lt (tgt := 78) hx hb dX2_endOld_67 (by decide) (fun c5 => ?_) (fun c5 => ?_)
                · skip
                  refine lv_iinc (v := nI (i2 + 1)) (lv' := [(2, .int (nI (i2 + 1))), (0, .ref (a 3)), (1, .int t)]) hx hb dX2_endOld_78 hl (k := 2) rfl (nI_inc _) (by decide) rfl (fun ls hl => ?_)
                  refine lv_goto (tgt := 41) hx hb dX2_endOld_81 (by decide) ?_
                  exact ih41 (i2 + 1) sy _ _ ls (by omega) (by rw [← hR2]; simp [iF, oldH, c3, c4, c5]) G (lv_sub hl [1, 2, 0] rfl)
                · skip
                  refine lv_aload_n hx hb dX2_endOld_70 rfl (lv_at hl 0 rfl) ?_
                  refine g_get X G fX2_18 3 rfl rfl dX2_endOld_71 ?_
                  refine lv_iload_n hx hb dX2_endOld_74 rfl (lv_at hl 2 rfl) ?_
                  refine lv_bipush (v := (-6)) hx hb dX2_endOld_75 (by decide) ?_
                  refine g_iast (j := i2) X G 12 rfl rfl (by omega) (by decide) dX2_endOld_77 (fun H locs G => ?_)
                  have G : Gw E A s (wB E a (sU sy 9 i2 (-6)) w) H locs := G
                  refine lv_iinc (v := nI (i2 + 1)) (lv' := [(2, .int (nI (i2 + 1))), (0, .ref (a 3)), (1, .int t)]) hx hb dX2_endOld_78 hl (k := 2) rfl (nI_inc _) (by decide) rfl (fun ls hl => ?_)
                  refine lv_goto (tgt := 41) hx hb dX2_endOld_81 (by decide) ?_
                  exact ih41 (i2 + 1) (sU sy 9 i2 (-6)) _ _ ls (by omega) (by rw [← hR2]; simp [iF, oldH, c3, c4, c5]) G (lv_sub hl [1, 2, 0] rfl)
        exact LP41 6 0 sx _ _ ls (by omega) (by unfold endOldC; rw [← hR]; rfl) G (lv_sub hl [1, 2, 0] rfl)
      · skip
        exact absurd c1 (by omega)
    | succ n ih2 =>
      intro i sx H locs ls hi hR G hl
      refine lv_iload_n hx hb dX2_endOld_2 rfl (lv_at hl 2 rfl) ?_
      refine lv_bipush (v := 32) hx hb dX2_endOld_3 (by decide) ?_
      refine n_cmp_ge (tgt := 39) i 32 rfl rfl (by omega) (by omega) hx hb dX2_endOld_5 (by decide) (fun c6 => ?_) (fun c6 => ?_)
      · skip
        exact absurd c6 (by omega)
      · skip
        refine lv_aload_n hx hb dX2_endOld_8 rfl (lv_at hl 0 rfl) ?_
        refine lv_iload_n hx hb dX2_endOld_9 rfl (lv_at hl 2 rfl) ?_
        refine g_callV (As := [.int (nI i)]) (rest := []) X kX2_38 (c_X2_isKnown l E a sx w i (by omega)) G 3 rfl rfl ⟨Nat.le_of_ble_eq_true rfl, Nat.le_of_ble_eq_true rfl⟩ ⟨Nat.le_refl _, Nat.le_refl _⟩ rfl hl.1 rfl (Nat.le_of_ble_eq_true rfl) dX2_endOld_10 (fun H locs G => ?_)
        refine b_ifeq (tgt := 33) hx hb dX2_endOld_13 (by decide) (fun c7 => ?_) (fun c7 => ?_)
        · skip
          refine lv_iinc (v := nI (i + 1)) (lv' := [(2, .int (nI (i + 1))), (0, .ref (a 3)), (1, .int t)]) hx hb dX2_endOld_33 hl (k := 2) rfl (nI_inc _) (by decide) rfl (fun ls hl => ?_)
          refine lv_goto (tgt := 2) hx hb dX2_endOld_36 (by decide) ?_
          exact ih2 (i + 1) sx _ _ ls (by omega) (by rw [← hR]; simp [iF, oldK, c6, c7]) G (lv_sub hl [1, 2, 0] rfl)
        · skip
          refine lv_iload_n hx hb dX2_endOld_16 rfl (lv_at hl 1 rfl) ?_
          refine lv_aload_n hx hb dX2_endOld_17 rfl (lv_at hl 0 rfl) ?_
          refine g_get X G fX2_15 3 rfl rfl dX2_endOld_18 ?_
          refine lv_iload_n hx hb dX2_endOld_21 rfl (lv_at hl 2 rfl) ?_
          refine g_iald (j := i) X G 11 rfl rfl (by omega) (by decide) dX2_endOld_22 ?_
          refine lv_isub hx hb dX2_endOld_23 ?_
          refine lv_iconst (v := 5) hx hb dX2_endOld_24 (by decide) ?_
          refine lv_icmp_lt (tgt := 33) hx hb dX2_endOld_25 (by decide) (fun c8 => ?_) (fun c8 => ?_)
          · skip
            refine lv_iinc (v := nI (i + 1)) (lv' := [(2, .int (nI (i + 1))), (0, .ref (a 3)), (1, .int t)]) hx hb dX2_endOld_33 hl (k := 2) rfl (nI_inc _) (by decide) rfl (fun ls hl => ?_)
            refine lv_goto (tgt := 2) hx hb dX2_endOld_36 (by decide) ?_
            exact ih2 (i + 1) sx _ _ ls (by omega) (by rw [← hR]; simp [iF, oldK, c6, c7, c8]) G (lv_sub hl [1, 2, 0] rfl)
          · skip
            refine lv_aload_n hx hb dX2_endOld_28 rfl (lv_at hl 0 rfl) ?_
            refine lv_iload_n hx hb dX2_endOld_29 rfl (lv_at hl 2 rfl) ?_
            refine g_callVv (As := [.int (nI i)]) (rest := []) X kX2_30 (c_X2_forget l E a sx w i (by omega)) G 3 rfl rfl ⟨Nat.le_of_ble_eq_true rfl, Nat.le_of_ble_eq_true rfl⟩ ⟨Nat.le_refl _, Nat.le_refl _⟩ rfl hl.1 rfl (Nat.le_of_ble_eq_true rfl) dX2_endOld_30 (fun H locs G => ?_)
            refine lv_iinc (v := nI (i + 1)) (lv' := [(2, .int (nI (i + 1))), (0, .ref (a 3)), (1, .int t)]) hx hb dX2_endOld_33 hl (k := 2) rfl (nI_inc _) (by decide) rfl (fun ls hl => ?_)
            refine lv_goto (tgt := 2) hx hb dX2_endOld_36 (by decide) ?_
            exact ih2 (i + 1) (sU sx 7 i (-6)) _ _ ls (by omega) (by rw [← hR]; simp [iF, oldK, c6, c7, c8]) G (lv_sub hl [1, 2, 0] rfl)
  exact LP2 32 0 st _ _ ls (by omega) rfl G (lv_sub hl [1, 2, 0] rfl)
set_option maxHeartbeats 4000000 in
set_option maxRecDepth 100000 in
theorem c_X2_countKnown (l : Launch) (E : EE) (a : Nat → Nat) (st : St) (w : va_W) : Ct l yX2_countKnown cX2_countKnown 3 (some .int) 1 E [.ref (a 3)] (wB E a st w) (nI (countKnownC st)) (wB E a st w) := by
  refine Ct_mk RX2 rfl (by decide +kernel) (Nat.le_of_ble_eq_true rfl) ?_
  intro p e s m below meth c A ls X hr G hl
  have hl : lv_has ls 3 [(0, .ref (a 3))] := hl
  obtain ⟨hx, hb, hml, hown, hts, hK, hA, hlocks⟩ := id X
  refine lv_iconst (v := 0) hx hb dX2_countKnown_0 (by decide) ?_
  refine lv_istore_n (lv' := [(1, .int 0), (0, .ref (a 3))]) hx hb dX2_countKnown_1 rfl hl (by decide) rfl (fun ls hl => ?_)
  refine lv_iconst (v := 0) hx hb dX2_countKnown_2 (by decide) ?_
  refine lv_istore_n (lv' := [(2, .int 0), (1, .int 0), (0, .ref (a 3))]) hx hb dX2_countKnown_3 rfl hl (by decide) rfl (fun ls hl => ?_)
  have LP4 : ∀ (n i : Nat) (k : Nat) (H : Heap) (locs : List Loc) (ls : Array Slot), (i + n = 32) → (k + cF (knownC st) n i = countKnownC st) → Gw E A s (wB E a st w) H locs → lv_has ls 3 [(0, .ref (a 3)), (1, .int (nI k)), (2, .int (nI i))] → W p l e (rmD 1) s m ([.ref (a 3)] : List Value).toArray below meth c H locs 0 0 (MQ below (CtQ E A (nI (countKnownC st)) (wB E a st w)) ([.ref (a 3)] : List Value).toArray s 0 0 A) (F0 m 4 ls []) := by
    intro n
    induction n with
    | zero =>
      intro i k H locs ls hi hR G hl
      refine lv_iload_n hx hb dX2_countKnown_4 rfl (lv_at hl 2 rfl) ?_
      refine lv_bipush (v := 32) hx hb dX2_countKnown_5 (by decide) ?_
      refine n_cmp_ge (tgt := 27) i 32 rfl rfl (by omega) (by omega) hx hb dX2_countKnown_7 (by decide) (fun c1 => ?_) (fun c1 => ?_)
      · skip
        refine lv_iload_n hx hb dX2_countKnown_27 rfl (lv_at hl 1 rfl) ?_
        exact g_iret X hr G rfl (by rw [← hR]; simp [cF]) dX2_countKnown_28
      · skip
        exact absurd c1 (by omega)
    | succ n ih4 =>
      intro i k H locs ls hi hR G hl
      refine lv_iload_n hx hb dX2_countKnown_4 rfl (lv_at hl 2 rfl) ?_
      refine lv_bipush (v := 32) hx hb dX2_countKnown_5 (by decide) ?_
      refine n_cmp_ge (tgt := 27) i 32 rfl rfl (by omega) (by omega) hx hb dX2_countKnown_7 (by decide) (fun c2 => ?_) (fun c2 => ?_)
      · skip
        exact absurd c2 (by omega)
      · skip
        refine lv_aload_n hx hb dX2_countKnown_10 rfl (lv_at hl 0 rfl) ?_
        refine lv_iload_n hx hb dX2_countKnown_11 rfl (lv_at hl 2 rfl) ?_
        refine g_callV (As := [.int (nI i)]) (rest := []) X kX2_38 (c_X2_isKnown l E a st w i (by omega)) G 3 rfl rfl ⟨Nat.le_of_ble_eq_true rfl, Nat.le_of_ble_eq_true rfl⟩ ⟨Nat.le_refl _, Nat.le_refl _⟩ rfl hl.1 rfl (Nat.le_of_ble_eq_true rfl) dX2_countKnown_12 (fun H locs G => ?_)
        refine b_ifeq (tgt := 21) hx hb dX2_countKnown_15 (by decide) (fun c3 => ?_) (fun c3 => ?_)
        · skip
          refine lv_iinc (v := nI (i + 1)) (lv' := [(2, .int (nI (i + 1))), (0, .ref (a 3)), (1, .int (nI k))]) hx hb dX2_countKnown_21 hl (k := 2) rfl (nI_inc _) (by decide) rfl (fun ls hl => ?_)
          refine lv_goto (tgt := 4) hx hb dX2_countKnown_24 (by decide) ?_
          exact ih4 (i + 1) k _ _ ls (by omega) (by simp [cF, c2, c3] at hR ⊢; omega) G (lv_sub hl [1, 2, 0] rfl)
        · skip
          refine lv_iinc (v := nI (k + 1)) (lv' := [(1, .int (nI (k + 1))), (0, .ref (a 3)), (2, .int (nI i))]) hx hb dX2_countKnown_18 hl (k := 1) rfl (nI_inc _) (by decide) rfl (fun ls hl => ?_)
          refine lv_iinc (v := nI (i + 1)) (lv' := [(2, .int (nI (i + 1))), (1, .int (nI (k + 1))), (0, .ref (a 3))]) hx hb dX2_countKnown_21 hl (k := 2) rfl (nI_inc _) (by decide) rfl (fun ls hl => ?_)
          refine lv_goto (tgt := 4) hx hb dX2_countKnown_24 (by decide) ?_
          exact ih4 (i + 1) (k + 1) _ _ ls (by omega) (by simp [cF, c2, c3] at hR ⊢; omega) G (lv_sub hl [2, 1, 0] rfl)
  exact LP4 32 0 0 _ _ ls (by omega) (by simp [countKnownC]) G (lv_sub hl [2, 1, 0] rfl)
set_option maxHeartbeats 4000000 in
set_option maxRecDepth 100000 in
theorem c_X2_countHeld (l : Launch) (E : EE) (a : Nat → Nat) (st : St) (w : va_W) : Ct l yX2_countHeld cX2_countHeld 3 (some .int) 0 E [.ref (a 3)] (wB E a st w) (nI (countHeldC st)) (wB E a st w) := by
  refine Ct_mk RX2 rfl (by decide +kernel) (Nat.le_of_ble_eq_true rfl) ?_
  intro p e s m below meth c A ls X hr G hl
  have hl : lv_has ls 3 [(0, .ref (a 3))] := hl
  obtain ⟨hx, hb, hml, hown, hts, hK, hA, hlocks⟩ := id X
  refine lv_iconst (v := 0) hx hb dX2_countHeld_0 (by decide) ?_
  refine lv_istore_n (lv' := [(1, .int 0), (0, .ref (a 3))]) hx hb dX2_countHeld_1 rfl hl (by decide) rfl (fun ls hl => ?_)
  refine lv_iconst (v := 0) hx hb dX2_countHeld_2 (by decide) ?_
  refine lv_istore_n (lv' := [(2, .int 0), (1, .int 0), (0, .ref (a 3))]) hx hb dX2_countHeld_3 rfl hl (by decide) rfl (fun ls hl => ?_)
  have LP4 : ∀ (n i : Nat) (k : Nat) (H : Heap) (locs : List Loc) (ls : Array Slot), (i + n = 6) → (k + cF (fun i => !decide (st 9 i = -6)) n i = countHeldC st) → Gw E A s (wB E a st w) H locs → lv_has ls 3 [(0, .ref (a 3)), (1, .int (nI k)), (2, .int (nI i))] → W p l e (rmD 0) s m ([.ref (a 3)] : List Value).toArray below meth c H locs 0 0 (MQ below (CtQ E A (nI (countHeldC st)) (wB E a st w)) ([.ref (a 3)] : List Value).toArray s 0 0 A) (F0 m 4 ls []) := by
    intro n
    induction n with
    | zero =>
      intro i k H locs ls hi hR G hl
      refine lv_iload_n hx hb dX2_countHeld_4 rfl (lv_at hl 2 rfl) ?_
      refine lv_bipush (v := 6) hx hb dX2_countHeld_5 (by decide) ?_
      refine n_cmp_ge (tgt := 30) i 6 rfl rfl (by omega) (by omega) hx hb dX2_countHeld_7 (by decide) (fun c1 => ?_) (fun c1 => ?_)
      · skip
        refine lv_iload_n hx hb dX2_countHeld_30 rfl (lv_at hl 1 rfl) ?_
        exact g_iret X hr G rfl (by rw [← hR]; simp [cF]) dX2_countHeld_31
      · skip
        exact absurd c1 (by omega)
    | succ n ih4 =>
      intro i k H locs ls hi hR G hl
      refine lv_iload_n hx hb dX2_countHeld_4 rfl (lv_at hl 2 rfl) ?_
      refine lv_bipush (v := 6) hx hb dX2_countHeld_5 (by decide) ?_
      refine n_cmp_ge (tgt := 30) i 6 rfl rfl (by omega) (by omega) hx hb dX2_countHeld_7 (by decide) (fun c2 => ?_) (fun c2 => ?_)
      · skip
        exact absurd c2 (by omega)
      · skip
        refine lv_aload_n hx hb dX2_countHeld_10 rfl (lv_at hl 0 rfl) ?_
        refine g_get X G fX2_18 3 rfl rfl dX2_countHeld_11 ?_
        refine lv_iload_n hx hb dX2_countHeld_14 rfl (lv_at hl 2 rfl) ?_
        refine g_iald (j := i) X G 12 rfl rfl (by omega) (by decide) dX2_countHeld_15 ?_
        refine lv_bipush (v := (-6)) hx hb dX2_countHeld_16 (by decide) ?_
        refine lv_icmp_eq (tgt := 24) hx hb dX2_countHeld_18 (by decide) (fun c3 => ?_) (fun c3 => ?_)
        · skip
          refine lv_iinc (v := nI (i + 1)) (lv' := [(2, .int (nI (i + 1))), (0, .ref (a 3)), (1, .int (nI k))]) hx hb dX2_countHeld_24 hl (k := 2) rfl (nI_inc _) (by decide) rfl (fun ls hl => ?_)
          refine lv_goto (tgt := 4) hx hb dX2_countHeld_27 (by decide) ?_
          exact ih4 (i + 1) k _ _ ls (by omega) (by simp [cF, c2, c3] at hR ⊢; omega) G (lv_sub hl [1, 2, 0] rfl)
        · skip
          refine lv_iinc (v := nI (k + 1)) (lv' := [(1, .int (nI (k + 1))), (0, .ref (a 3)), (2, .int (nI i))]) hx hb dX2_countHeld_21 hl (k := 1) rfl (nI_inc _) (by decide) rfl (fun ls hl => ?_)
          refine lv_iinc (v := nI (i + 1)) (lv' := [(2, .int (nI (i + 1))), (1, .int (nI (k + 1))), (0, .ref (a 3))]) hx hb dX2_countHeld_24 hl (k := 2) rfl (nI_inc _) (by decide) rfl (fun ls hl => ?_)
          refine lv_goto (tgt := 4) hx hb dX2_countHeld_27 (by decide) ?_
          exact ih4 (i + 1) (k + 1) _ _ ls (by omega) (by simp [cF, c2, c3] at hR ⊢; omega) G (lv_sub hl [2, 1, 0] rfl)
  exact LP4 6 0 0 _ _ ls (by omega) (by simp [countHeldC]) G (lv_sub hl [2, 1, 0] rfl)
end
section
def oN (o : Option Nat) : Int32 := match o with
  | none => -5
  | some j => nI j
theorem nI_m5 {j : Nat} (h : j < 2 ^ 31) : ¬ nI j = -5 := by
  intro q
  have := nI_pos h
  rw [q] at this
  exact this (by decide)
theorem n_split {p : Program} {l : Launch} {e : Env} {R : Room} {s : State} {m : MethodId} {args : Array Value} {below : List Frame} {meth : Method} {c : Code} {H : Heap} {locs : List Loc} {cells slots : Nat} {Q : State → Prop} {pc : Nat} {ls : Array Slot} {rest : List Value} {o : Option Nat} (k0 : o = none → W p l e R s m args below meth c H locs cells slots Q (F0 m pc ls (.int (-5) :: rest))) (k1 : ∀ j : Nat, o = some j → W p l e R s m args below meth c H locs cells slots Q (F0 m pc ls (.int (nI j) :: rest))) : W p l e R s m args below meth c H locs cells slots Q (F0 m pc ls (.int (oN o) :: rest)) := by
  cases o with
  | none => exact k0 rfl
  | some j => exact k1 j rfl
theorem q_ldc265 : Cond.constant RJ6 265 1431655765 ∈ gT := gT_in 346 (by decide +kernel) (by decide +kernel)
theorem q_ldc266 : Cond.constant RJ6 266 858993459 ∈ gT := gT_in 347 (by decide +kernel) (by decide +kernel)
theorem q_ldc267 : Cond.constant RJ6 267 252645135 ∈ gT := gT_in 348 (by decide +kernel) (by decide +kernel)
def endB (o : Nat) (st : St) : St := iF (forgetAllC (nI o)) 32 0 (sU st 1 o (-6))
def endAllC (st : St) : St := iF endB 16 0 st
def lifeC (st : St) (o : Nat) : Int32 := if st 2 o = 0 then st 0 3 else if st 2 o = 1 then st 0 4 else st 0 5
def leftC (st : St) (o : Nat) : Int32 := st 3 o + lifeC st o - st 11 0
def lapS (o : Nat) (x : St × Nat) : St × Nat := if lentC x.1 o && !decide (0 < leftC x.1 o) then (endB o x.1, x.2 + 1) else x
def endLapC (st : St) : St × Nat := iF lapS 16 0 (st, 0)
def setRuleC (st : St) (what : Nat) (v : Int32) : St := (endLapC (if what = 0 ∧ ¬ v = st 0 what then endAllC (sU st 0 what v) else sU st 0 what v)).1
def fitC (st : St) (o port : Nat) : Bool := !lentC st o && (decide (st 0 2 = 0) || decide (o % 2 = port % 2))
def lfbC (st : St) (b port : Nat) : Option Nat := (fF (fun i => fitC st (b * 4 + i) port) 4 0).map (fun i => b * 4 + i)
def lfhF (st : St) (h : Int32) (port : Nat) : Nat → Nat → Option Nat
  | 0, _ => none
  | n + 1, b => if holderC st b = h then (match lfbC st b port with
    | some o => some o
    | none => lfhF st h port n (b + 1)) else lfhF st h port n (b + 1)
def chooseC (st : St) (h : Int32) (port : Nat) : Option Nat :=
  if fitC st (port % 16) port && decide (holderC st (port % 16 / 4) = h) then some (port % 16) else match lfhF st h port 4 0 with
    | some o => some o
    | none => if holderC st (port % 16 / 4) = -6 then some (port % 16) else lfhF st (-6) port 4 0
theorem lfbC_lt {st : St} {b port j : Nat} (h : lfbC st b port = some j) : b * 4 ≤ j ∧ j < b * 4 + 4 := by
  unfold lfbC at h
  cases h1 : fF (fun i => fitC st (b * 4 + i) port) 4 0 with
  | none => rw [h1] at h; simp at h
  | some i =>
    rw [h1] at h
    simp at h
    have := fF_lt h1
    omega
theorem lfhF_lt {st : St} {h : Int32} {port : Nat} : ∀ {n b j : Nat}, lfhF st h port n b = some j → b * 4 ≤ j ∧ j < (b + n) * 4
  | 0, b, j, q => by simp [lfhF] at q
  | n + 1, b, j, q => by
    unfold lfhF at q
    by_cases h1 : holderC st b = h
    · rw [if_pos h1] at q
      cases h2 : lfbC st b port with
      | none =>
        rw [h2] at q
        have := lfhF_lt q
        omega
      | some o =>
        rw [h2] at q
        have := lfbC_lt h2
        simp at q
        omega
    · rw [if_neg h1] at q
      have := lfhF_lt q
      omega
theorem chooseC_lt {st : St} {h : Int32} {port j : Nat} (q : chooseC st h port = some j) : j < 16 := by
  unfold chooseC at q
  split at q
  · simp at q; omega
  · split at q
    · rename_i o h1
      have := lfhF_lt h1
      simp at q
      omega
    · split at q
      · simp at q; omega
      · have := lfhF_lt q
        omega
def makeC (st : St) (host port r rp : Nat) : St := match chooseC st (nI host) port with
  | none => st
  | some o => lendC st o (nI (host * 32 + port)) (if st 0 0 < 1 then -6 else nI r) (if st 0 0 < 2 then -6 else nI rp)
def useC (st : St) (j : Nat) (t : Int32) : St := sU st 3 j t
def flagO (st : St) (j f : Nat) : St := if f = 2 then sU st 2 j 2 else if f = 1 then (if st 2 j = 2 then sU st 2 j 0 else st) else st
def goFin (st : St) (j r rp f : Nat) : St := flagO (sU (markC st j r rp) 3 j (markC st j r rp 11 0)) j f
def goOutO (st : St) (host port r rp : Nat) : Option Nat := match seekO st (nI (host * 32 + port)) (nI r) (nI rp) with
  | some j => some j
  | none => chooseC st (nI host) port
def goOutC (st : St) (host port r rp f : Nat) : St := match seekO st (nI (host * 32 + port)) (nI r) (nI rp) with
  | some j => goFin st j r rp f
  | none => match chooseC st (nI host) port with
    | none => makeC st host port r rp
    | some j => goFin (makeC st host port r rp) j r rp f
theorem goOutO_lt {st : St} {host port r rp j : Nat} (h : goOutO st host port r rp = some j) : j < 16 := by
  unfold goOutO at h
  split at h
  · rename_i j2 h2
    have := seekO_lt h2
    simp at h; omega
  · exact chooseC_lt h
def reasonC (st : St) (r rp o : Nat) : Nat := if lentC st o = false then 1 else if st 0 1 = 1 ∧ isAnyC st o r = false then 2 else if st 0 1 = 2 ∧ isSentC st o r rp = false then 2 else 0
theorem reasonC_le (st : St) (r rp o : Nat) : reasonC st r rp o ≤ 2 := by
  unfold reasonC
  split
  · omega
  · split
    · omega
    · split <;> omega
def flagI (st : St) (o f : Nat) : St := if f = 2 then sU st 2 o 2 else if st 2 o = 0 then sU st 2 o 1 else st
def comeInC (st : St) (r rp o f : Nat) : St := if reasonC st r rp o = 0 then flagI (sU st 3 o (st 11 0)) o f else st
def comeInR (st : St) (r rp o f : Nat) : Int32 := if reasonC st r rp o = 0 then comeInC st r rp o f 1 o else -6
def tfpC (st : St) (k r rp o : Nat) : Int32 × St :=
  let x := iF (relS (nI k)) 6 0 (comeInC st r rp o 0, 0)
  if comeInR st r rp o 0 = -6 then (-6, sU x.1 7 k (-6)) else (nI (1 + x.2), sU (sU x.1 7 k (nI o)) 8 k (x.1 11 0))
def topC (st : St) (k pt : Nat) : Int32 × St := if knownC st k then (1, st) else holdC st (nI (k * 8 + pt)) (st 11 0)
def passC (st : St) (n : Int32) : St × Nat := endLapC (endOldC (sU st 11 0 (st 11 0 + n)) (sU st 11 0 (st 11 0 + n) 11 0))
def tellB (st : St) (o : Nat) (what : Int32) : Int32 := if what = 0 then st 1 o else if what = 1 then st 2 o else if what = 2 then leftC st o else if what = 3 then countSentC st o else if what = 4 then st 4 o else st 5 o
def countFitC (st : St) (h : Int32) (port : Nat) : Nat := cF (fun o => (decide (holderC st (o / 4) = h) || decide (holderC st (o / 4) = -6)) && fitC st o port) 16 0
def tellH (st : St) (h what : Int32) : Int32 := if what = 0 then nI (countHostC st h) else if what = 1 then blocksC st h else if what = 2 then nI (countFitC st h 0) else nI (countFitC st h 1)
def ltF (st : St) : Nat → Nat → Int32 → Int32
  | 0, _, x => x
  | n + 1, i, x => ltF st n (i + 1) (if lentC st i && (decide (x = -6) || !decide (x ≤ leftC st i)) then leftC st i else x)
def dropS (h : Int32) (o : Nat) (x : St × Nat) : St × Nat := if hostC x.1 o = h then (endB o x.1, x.2 + 1) else x
end
section
set_option maxHeartbeats 4000000 in
set_option maxRecDepth 100000 in
theorem c_J6_bitCount_0f7a4 (l : Launch) (E : EE) (w : va_W) (x : Int32) : Ct l yJ6_bitCount_0f7a4 cJ6_bitCount_0f7a4 1 (some .int) 0 E [.int x] (w) (bcC x) (w) := by
  refine Ct_mk RJ6 rfl (by decide +kernel) (Nat.le_of_ble_eq_true rfl) ?_
  intro p e s m below meth c A ls X hr G hl
  have hl : lv_has ls 1 [(0, .int x)] := hl
  obtain ⟨hx, hb, hml, hown, hts, hK, hA, hlocks⟩ := id X
  refine lv_iload_n hx hb dJ6_bitCount_0f7a4_0 rfl (lv_at hl 0 rfl) ?_
  refine lv_iload_n hx hb dJ6_bitCount_0f7a4_1 rfl (lv_at hl 0 rfl) ?_
  refine lv_iconst (v := 1) hx hb dJ6_bitCount_0f7a4_2 (by decide) ?_
  refine lv_iushr (v := ush x 1) hx hb dJ6_bitCount_0f7a4_3 rfl ?_
  refine lv_ldcw (v := 1431655765) hx hb hown (hts _ q_ldc265) dJ6_bitCount_0f7a4_4 ?_
  refine lv_iand hx hb dJ6_bitCount_0f7a4_7 ?_
  refine lv_isub hx hb dJ6_bitCount_0f7a4_8 ?_
  refine lv_istore_n (lv' := [(0, .int (x - ((ush x 1) &&& 1431655765)))]) hx hb dJ6_bitCount_0f7a4_9 rfl hl (by decide) rfl (fun ls hl => ?_)
  refine lv_iload_n hx hb dJ6_bitCount_0f7a4_10 rfl (lv_at hl 0 rfl) ?_
  refine lv_ldcw (v := 858993459) hx hb hown (hts _ q_ldc266) dJ6_bitCount_0f7a4_11 ?_
  refine lv_iand hx hb dJ6_bitCount_0f7a4_14 ?_
  refine lv_iload_n hx hb dJ6_bitCount_0f7a4_15 rfl (lv_at hl 0 rfl) ?_
  refine lv_iconst (v := 2) hx hb dJ6_bitCount_0f7a4_16 (by decide) ?_
  refine lv_iushr (v := ush (x - ((ush x 1) &&& 1431655765)) 2) hx hb dJ6_bitCount_0f7a4_17 rfl ?_
  refine lv_ldcw (v := 858993459) hx hb hown (hts _ q_ldc266) dJ6_bitCount_0f7a4_18 ?_
  refine lv_iand hx hb dJ6_bitCount_0f7a4_21 ?_
  refine lv_iadd hx hb dJ6_bitCount_0f7a4_22 ?_
  refine lv_istore_n (lv' := [(0, .int (((x - ((ush x 1) &&& 1431655765)) &&& 858993459) + ((ush (x - ((ush x 1) &&& 1431655765)) 2) &&& 858993459)))]) hx hb dJ6_bitCount_0f7a4_23 rfl hl (by decide) rfl (fun ls hl => ?_)
  refine lv_iload_n hx hb dJ6_bitCount_0f7a4_24 rfl (lv_at hl 0 rfl) ?_
  refine lv_iload_n hx hb dJ6_bitCount_0f7a4_25 rfl (lv_at hl 0 rfl) ?_
  refine lv_iconst (v := 4) hx hb dJ6_bitCount_0f7a4_26 (by decide) ?_
  refine lv_iushr (v := ush (((x - ((ush x 1) &&& 1431655765)) &&& 858993459) + ((ush (x - ((ush x 1) &&& 1431655765)) 2) &&& 858993459)) 4) hx hb dJ6_bitCount_0f7a4_27 rfl ?_
  refine lv_iadd hx hb dJ6_bitCount_0f7a4_28 ?_
  refine lv_ldcw (v := 252645135) hx hb hown (hts _ q_ldc267) dJ6_bitCount_0f7a4_29 ?_
  refine lv_iand hx hb dJ6_bitCount_0f7a4_32 ?_
  refine lv_istore_n (lv' := [(0, .int (((((x - ((ush x 1) &&& 1431655765)) &&& 858993459) + ((ush (x - ((ush x 1) &&& 1431655765)) 2) &&& 858993459)) + (ush (((x - ((ush x 1) &&& 1431655765)) &&& 858993459) + ((ush (x - ((ush x 1) &&& 1431655765)) 2) &&& 858993459)) 4)) &&& 252645135))]) hx hb dJ6_bitCount_0f7a4_33 rfl hl (by decide) rfl (fun ls hl => ?_)
  refine lv_iload_n hx hb dJ6_bitCount_0f7a4_34 rfl (lv_at hl 0 rfl) ?_
  refine lv_iload_n hx hb dJ6_bitCount_0f7a4_35 rfl (lv_at hl 0 rfl) ?_
  refine lv_bipush (v := 8) hx hb dJ6_bitCount_0f7a4_36 (by decide) ?_
  refine lv_iushr (v := ush (((((x - ((ush x 1) &&& 1431655765)) &&& 858993459) + ((ush (x - ((ush x 1) &&& 1431655765)) 2) &&& 858993459)) + (ush (((x - ((ush x 1) &&& 1431655765)) &&& 858993459) + ((ush (x - ((ush x 1) &&& 1431655765)) 2) &&& 858993459)) 4)) &&& 252645135) 8) hx hb dJ6_bitCount_0f7a4_38 rfl ?_
  refine lv_iadd hx hb dJ6_bitCount_0f7a4_39 ?_
  refine lv_istore_n (lv' := [(0, .int ((((((x - ((ush x 1) &&& 1431655765)) &&& 858993459) + ((ush (x - ((ush x 1) &&& 1431655765)) 2) &&& 858993459)) + (ush (((x - ((ush x 1) &&& 1431655765)) &&& 858993459) + ((ush (x - ((ush x 1) &&& 1431655765)) 2) &&& 858993459)) 4)) &&& 252645135) + (ush (((((x - ((ush x 1) &&& 1431655765)) &&& 858993459) + ((ush (x - ((ush x 1) &&& 1431655765)) 2) &&& 858993459)) + (ush (((x - ((ush x 1) &&& 1431655765)) &&& 858993459) + ((ush (x - ((ush x 1) &&& 1431655765)) 2) &&& 858993459)) 4)) &&& 252645135) 8)))]) hx hb dJ6_bitCount_0f7a4_40 rfl hl (by decide) rfl (fun ls hl => ?_)
  refine lv_iload_n hx hb dJ6_bitCount_0f7a4_41 rfl (lv_at hl 0 rfl) ?_
  refine lv_iload_n hx hb dJ6_bitCount_0f7a4_42 rfl (lv_at hl 0 rfl) ?_
  refine lv_bipush (v := 16) hx hb dJ6_bitCount_0f7a4_43 (by decide) ?_
  refine lv_iushr (v := ush ((((((x - ((ush x 1) &&& 1431655765)) &&& 858993459) + ((ush (x - ((ush x 1) &&& 1431655765)) 2) &&& 858993459)) + (ush (((x - ((ush x 1) &&& 1431655765)) &&& 858993459) + ((ush (x - ((ush x 1) &&& 1431655765)) 2) &&& 858993459)) 4)) &&& 252645135) + (ush (((((x - ((ush x 1) &&& 1431655765)) &&& 858993459) + ((ush (x - ((ush x 1) &&& 1431655765)) 2) &&& 858993459)) + (ush (((x - ((ush x 1) &&& 1431655765)) &&& 858993459) + ((ush (x - ((ush x 1) &&& 1431655765)) 2) &&& 858993459)) 4)) &&& 252645135) 8)) 16) hx hb dJ6_bitCount_0f7a4_45 rfl ?_
  refine lv_iadd hx hb dJ6_bitCount_0f7a4_46 ?_
  refine lv_istore_n (lv' := [(0, .int (((((((x - ((ush x 1) &&& 1431655765)) &&& 858993459) + ((ush (x - ((ush x 1) &&& 1431655765)) 2) &&& 858993459)) + (ush (((x - ((ush x 1) &&& 1431655765)) &&& 858993459) + ((ush (x - ((ush x 1) &&& 1431655765)) 2) &&& 858993459)) 4)) &&& 252645135) + (ush (((((x - ((ush x 1) &&& 1431655765)) &&& 858993459) + ((ush (x - ((ush x 1) &&& 1431655765)) 2) &&& 858993459)) + (ush (((x - ((ush x 1) &&& 1431655765)) &&& 858993459) + ((ush (x - ((ush x 1) &&& 1431655765)) 2) &&& 858993459)) 4)) &&& 252645135) 8)) + (ush ((((((x - ((ush x 1) &&& 1431655765)) &&& 858993459) + ((ush (x - ((ush x 1) &&& 1431655765)) 2) &&& 858993459)) + (ush (((x - ((ush x 1) &&& 1431655765)) &&& 858993459) + ((ush (x - ((ush x 1) &&& 1431655765)) 2) &&& 858993459)) 4)) &&& 252645135) + (ush (((((x - ((ush x 1) &&& 1431655765)) &&& 858993459) + ((ush (x - ((ush x 1) &&& 1431655765)) 2) &&& 858993459)) + (ush (((x - ((ush x 1) &&& 1431655765)) &&& 858993459) + ((ush (x - ((ush x 1) &&& 1431655765)) 2) &&& 858993459)) 4)) &&& 252645135) 8)) 16)))]) hx hb dJ6_bitCount_0f7a4_47 rfl hl (by decide) rfl (fun ls hl => ?_)
  refine lv_iload_n hx hb dJ6_bitCount_0f7a4_48 rfl (lv_at hl 0 rfl) ?_
  refine lv_bipush (v := 63) hx hb dJ6_bitCount_0f7a4_49 (by decide) ?_
  refine lv_iand hx hb dJ6_bitCount_0f7a4_51 ?_
  exact g_iret X hr G rfl (by rfl) dJ6_bitCount_0f7a4_52
set_option maxHeartbeats 4000000 in
set_option maxRecDepth 100000 in
theorem c_X0_countSent (l : Launch) (E : EE) (a : Nat → Nat) (st : St) (w : va_W) (o : Nat) (ho : o < 16) : Ct l yX0_countSent cX0_countSent 4 (some .int) 1 E [.ref (a 2), .int (nI o)] (wB E a st w) (countSentC st o) (wB E a st w) := by
  refine Ct_mk RX0 rfl (by decide +kernel) (Nat.le_of_ble_eq_true rfl) ?_
  intro p e s m below meth c A ls X hr G hl
  have hl : lv_has ls 4 [(0, .ref (a 2)), (1, .int (nI o))] := hl
  obtain ⟨hx, hb, hml, hown, hts, hK, hA, hlocks⟩ := id X
  refine lv_iconst (v := 0) hx hb dX0_countSent_0 (by decide) ?_
  refine lv_istore_n (lv' := [(2, .int 0), (0, .ref (a 2)), (1, .int (nI o))]) hx hb dX0_countSent_1 rfl hl (by decide) rfl (fun ls hl => ?_)
  refine lv_iconst (v := 0) hx hb dX0_countSent_2 (by decide) ?_
  refine lv_istore_n (lv' := [(3, .int 0), (2, .int 0), (0, .ref (a 2)), (1, .int (nI o))]) hx hb dX0_countSent_3 rfl hl (by decide) rfl (fun ls hl => ?_)
  have LP4 : ∀ (n i : Nat) (k : Int32) (H : Heap) (locs : List Loc) (ls : Array Slot), (i + n = 5) → (sumF (fun r => bcC (st 6 (o * 5 + r))) n i k = countSentC st o) → Gw E A s (wB E a st w) H locs → lv_has ls 4 [(0, .ref (a 2)), (1, .int (nI o)), (2, .int k), (3, .int (nI i))] → W p l e (rmD 1) s m ([.ref (a 2), .int (nI o)] : List Value).toArray below meth c H locs 0 0 (MQ below (CtQ E A (countSentC st o) (wB E a st w)) ([.ref (a 2), .int (nI o)] : List Value).toArray s 0 0 A) (F0 m 4 ls []) := by
    intro n
    induction n with
    | zero =>
      intro i k H locs ls hi hR G hl
      refine lv_iload_n hx hb dX0_countSent_4 rfl (lv_at hl 3 rfl) ?_
      refine lv_iconst (v := 5) hx hb dX0_countSent_5 (by decide) ?_
      refine n_cmp_ge (tgt := 31) i 5 rfl rfl (by omega) (by omega) hx hb dX0_countSent_6 (by decide) (fun c1 => ?_) (fun c1 => ?_)
      · skip
        refine lv_iload_n hx hb dX0_countSent_31 rfl (lv_at hl 2 rfl) ?_
        exact g_iret X hr G rfl (by rw [← hR]; rfl) dX0_countSent_32
      · skip
        exact absurd c1 (by omega)
    | succ n ih4 =>
      intro i k H locs ls hi hR G hl
      refine lv_iload_n hx hb dX0_countSent_4 rfl (lv_at hl 3 rfl) ?_
      refine lv_iconst (v := 5) hx hb dX0_countSent_5 (by decide) ?_
      refine n_cmp_ge (tgt := 31) i 5 rfl rfl (by omega) (by omega) hx hb dX0_countSent_6 (by decide) (fun c2 => ?_) (fun c2 => ?_)
      · skip
        exact absurd c2 (by omega)
      · skip
        refine lv_iload_n hx hb dX0_countSent_9 rfl (lv_at hl 2 rfl) ?_
        refine lv_aload_n hx hb dX0_countSent_10 rfl (lv_at hl 0 rfl) ?_
        refine g_get X G fX0_27 2 rfl rfl dX0_countSent_11 ?_
        refine lv_iload_n hx hb dX0_countSent_14 rfl (lv_at hl 1 rfl) ?_
        refine lv_iconst (v := 5) hx hb dX0_countSent_15 (by decide) ?_
        refine n_imul o 5 rfl rfl hx hb dX0_countSent_16 ?_
        refine lv_iload_n hx hb dX0_countSent_17 rfl (lv_at hl 3 rfl) ?_
        refine n_iadd (o * 5) i rfl rfl hx hb dX0_countSent_18 ?_
        refine g_iald (j := (o * 5) + i) X G 9 rfl rfl (by omega) (by decide) dX0_countSent_19 ?_
        refine g_callS (As := [.int (st 6 ((o * 5) + i))]) (rest := [.int k]) X kX0_44 (c_J6_bitCount_0f7a4 l E _ (st 6 ((o * 5) + i))) G ⟨Nat.le_of_ble_eq_true rfl, Nat.le_of_ble_eq_true rfl⟩ ⟨Nat.le_refl _, Nat.le_refl _⟩ rfl hl.1 rfl (Nat.le_of_ble_eq_true rfl) dX0_countSent_20 (fun H locs G => ?_)
        refine lv_iadd hx hb dX0_countSent_23 ?_
        refine lv_istore_n (lv' := [(2, .int (k + (bcC (st 6 ((o * 5) + i))))), (0, .ref (a 2)), (1, .int (nI o)), (3, .int (nI i))]) hx hb dX0_countSent_24 rfl hl (by decide) rfl (fun ls hl => ?_)
        refine lv_iinc (v := nI (i + 1)) (lv' := [(3, .int (nI (i + 1))), (2, .int (k + (bcC (st 6 ((o * 5) + i))))), (0, .ref (a 2)), (1, .int (nI o))]) hx hb dX0_countSent_25 hl (k := 3) rfl (nI_inc _) (by decide) rfl (fun ls hl => ?_)
        refine lv_goto (tgt := 4) hx hb dX0_countSent_28 (by decide) ?_
        exact ih4 (i + 1) (k + (bcC (st 6 ((o * 5) + i)))) _ _ ls (by omega) (by rw [← hR]; rfl) G (lv_sub hl [2, 3, 1, 0] rfl)
  exact LP4 5 0 0 _ _ ls (by omega) rfl G (lv_sub hl [2, 3, 1, 0] rfl)
set_option maxHeartbeats 4000000 in
set_option maxRecDepth 100000 in
theorem c_X0_countFreeBlocks (l : Launch) (E : EE) (a : Nat → Nat) (st : St) (w : va_W) : Ct l yX0_countFreeBlocks cX0_countFreeBlocks 1 (some .int) 4 E [.ref (a 2)] (wB E a st w) (bcC (blocksC st (-6))) (wB E a st w) := by
  refine Ct_mk RX0 rfl (by decide +kernel) (Nat.le_of_ble_eq_true rfl) ?_
  intro p e s m below meth c A ls X hr G hl
  have hl : lv_has ls 1 [(0, .ref (a 2))] := hl
  obtain ⟨hx, hb, hml, hown, hts, hK, hA, hlocks⟩ := id X
  refine lv_aload_n hx hb dX0_countFreeBlocks_0 rfl (lv_at hl 0 rfl) ?_
  refine lv_bipush (v := (-6)) hx hb dX0_countFreeBlocks_1 (by decide) ?_
  refine g_callV (As := [.int (-6)]) (rest := []) X kX0_56 (c_X0_blocksOf l E a st w (-6)) G 2 rfl rfl ⟨Nat.le_of_ble_eq_true rfl, Nat.le_of_ble_eq_true rfl⟩ ⟨Nat.le_refl _, Nat.le_refl _⟩ rfl hl.1 rfl (Nat.le_of_ble_eq_true rfl) dX0_countFreeBlocks_3 (fun H locs G => ?_)
  refine g_callS (As := [.int (blocksC st (-6))]) (rest := []) X kX0_44 (c_J6_bitCount_0f7a4 l E _ (blocksC st (-6))) G ⟨Nat.le_of_ble_eq_true rfl, Nat.le_of_ble_eq_true rfl⟩ ⟨Nat.le_refl _, Nat.le_refl _⟩ rfl hl.1 rfl (Nat.le_of_ble_eq_true rfl) dX0_countFreeBlocks_6 (fun H locs G => ?_)
  exact g_iret X hr G rfl rfl dX0_countFreeBlocks_9
set_option maxHeartbeats 4000000 in
set_option maxRecDepth 100000 in
theorem c_X1_endBinding (l : Launch) (E : EE) (a : Nat → Nat) (st : St) (w : va_W) (o : Nat) (ho : o < 16) : Cv l yX1_endBinding cX1_endBinding 2 2 E [.ref (a 0), .int (nI o)] (wB E a st w) (wB E a (endB o st) w) := by
  refine Cv_mk RX1 rfl (by decide +kernel) (Nat.le_of_ble_eq_true rfl) ?_
  intro p e s m below meth c A ls X hr G hl
  have hl : lv_has ls 2 [(0, .ref (a 0)), (1, .int (nI o))] := hl
  obtain ⟨hx, hb, hml, hown, hts, hK, hA, hlocks⟩ := id X
  refine lv_aload_n hx hb dX1_endBinding_0 rfl (lv_at hl 0 rfl) ?_
  refine g_get X G fX1_26 0 rfl rfl dX1_endBinding_1 ?_
  refine lv_iload_n hx hb dX1_endBinding_4 rfl (lv_at hl 1 rfl) ?_
  refine g_callVv (As := [.int (nI o)]) (rest := []) X kX1_157 (c_X0_unlend l E a st w o (by omega)) G 2 rfl rfl ⟨Nat.le_of_ble_eq_true rfl, Nat.le_of_ble_eq_true rfl⟩ ⟨Nat.le_refl _, Nat.le_refl _⟩ rfl hl.1 rfl (Nat.le_of_ble_eq_true rfl) dX1_endBinding_5 (fun H locs G => ?_)
  refine lv_aload_n hx hb dX1_endBinding_8 rfl (lv_at hl 0 rfl) ?_
  refine g_get X G fX1_33 0 rfl rfl dX1_endBinding_9 ?_
  refine lv_iload_n hx hb dX1_endBinding_12 rfl (lv_at hl 1 rfl) ?_
  refine g_callVv (As := [.int (nI o)]) (rest := []) X kX1_160 (c_X2_forgetAllOf l E a (sU st 1 o (-6)) w (nI o)) G 3 rfl rfl ⟨Nat.le_of_ble_eq_true rfl, Nat.le_of_ble_eq_true rfl⟩ ⟨Nat.le_refl _, Nat.le_refl _⟩ rfl hl.1 rfl (Nat.le_of_ble_eq_true rfl) dX1_endBinding_13 (fun H locs G => ?_)
  exact g_vret X hr G (congrArg (fun z => wB E a z w) (by rfl)) dX1_endBinding_16
set_option maxHeartbeats 4000000 in
set_option maxRecDepth 100000 in
theorem c_X1_endAll (l : Launch) (E : EE) (a : Nat → Nat) (st : St) (w : va_W) : Cv l yX1_endAll cX1_endAll 2 3 E [.ref (a 0)] (wB E a st w) (wB E a (endAllC st) w) := by
  refine Cv_mk RX1 rfl (by decide +kernel) (Nat.le_of_ble_eq_true rfl) ?_
  intro p e s m below meth c A ls X hr G hl
  have hl : lv_has ls 2 [(0, .ref (a 0))] := hl
  obtain ⟨hx, hb, hml, hown, hts, hK, hA, hlocks⟩ := id X
  refine lv_iconst (v := 0) hx hb dX1_endAll_0 (by decide) ?_
  refine lv_istore_n (lv' := [(1, .int 0), (0, .ref (a 0))]) hx hb dX1_endAll_1 rfl hl (by decide) rfl (fun ls hl => ?_)
  have LP2 : ∀ (n i : Nat) (sx : St) (H : Heap) (locs : List Loc) (ls : Array Slot), (i + n = 16) → (iF endB n i sx = endAllC st) → Gw E A s (wB E a sx w) H locs → lv_has ls 2 [(0, .ref (a 0)), (1, .int (nI i))] → W p l e (rmD 3) s m ([.ref (a 0)] : List Value).toArray below meth c H locs 0 0 (MQ below (CvQ E A (wB E a (endAllC st) w)) ([.ref (a 0)] : List Value).toArray s 0 0 A) (F0 m 2 ls []) := by
    intro n
    induction n with
    | zero =>
      intro i sx H locs ls hi hR G hl
      refine lv_iload_n hx hb dX1_endAll_2 rfl (lv_at hl 1 rfl) ?_
      refine lv_bipush (v := 16) hx hb dX1_endAll_3 (by decide) ?_
      refine n_cmp_ge (tgt := 19) i 16 rfl rfl (by omega) (by omega) hx hb dX1_endAll_5 (by decide) (fun c1 => ?_) (fun c1 => ?_)
      · skip
        exact g_vret X hr G (congrArg (fun z => wB E a z w) (by rw [← hR]; rfl)) dX1_endAll_19
      · skip
        exact absurd c1 (by omega)
    | succ n ih2 =>
      intro i sx H locs ls hi hR G hl
      refine lv_iload_n hx hb dX1_endAll_2 rfl (lv_at hl 1 rfl) ?_
      refine lv_bipush (v := 16) hx hb dX1_endAll_3 (by decide) ?_
      refine n_cmp_ge (tgt := 19) i 16 rfl rfl (by omega) (by omega) hx hb dX1_endAll_5 (by decide) (fun c2 => ?_) (fun c2 => ?_)
      · skip
        exact absurd c2 (by omega)
      · skip
        refine lv_aload_n hx hb dX1_endAll_8 rfl (lv_at hl 0 rfl) ?_
        refine lv_iload_n hx hb dX1_endAll_9 rfl (lv_at hl 1 rfl) ?_
        refine g_callVv (As := [.int (nI i)]) (rest := []) X kX1_151 (c_X1_endBinding l E a sx w i (by omega)) G 0 rfl rfl ⟨Nat.le_of_ble_eq_true rfl, Nat.le_of_ble_eq_true rfl⟩ ⟨Nat.le_refl _, Nat.le_refl _⟩ rfl hl.1 rfl (Nat.le_of_ble_eq_true rfl) dX1_endAll_10 (fun H locs G => ?_)
        refine lv_iinc (v := nI (i + 1)) (lv' := [(1, .int (nI (i + 1))), (0, .ref (a 0))]) hx hb dX1_endAll_13 hl (k := 1) rfl (nI_inc _) (by decide) rfl (fun ls hl => ?_)
        refine lv_goto (tgt := 2) hx hb dX1_endAll_16 (by decide) ?_
        exact ih2 (i + 1) (endB i sx) _ _ ls (by omega) (by rw [← hR]; rfl) G (lv_sub hl [1, 0] rfl)
  exact LP2 16 0 st _ _ ls (by omega) rfl G (lv_sub hl [1, 0] rfl)
set_option maxHeartbeats 4000000 in
set_option maxRecDepth 100000 in
theorem c_X1_lifeOf (l : Launch) (E : EE) (a : Nat → Nat) (st : St) (w : va_W) (o : Nat) (ho : o < 16) : Ct l yX1_lifeOf cX1_lifeOf 2 (some .int) 0 E [.ref (a 0), .int (nI o)] (wB E a st w) (lifeC st o) (wB E a st w) := by
  refine Ct_mk RX1 rfl (by decide +kernel) (Nat.le_of_ble_eq_true rfl) ?_
  intro p e s m below meth c A ls X hr G hl
  have hl : lv_has ls 2 [(0, .ref (a 0)), (1, .int (nI o))] := hl
  obtain ⟨hx, hb, hml, hown, hts, hK, hA, hlocks⟩ := id X
  refine lv_aload_n hx hb dX1_lifeOf_0 rfl (lv_at hl 0 rfl) ?_
  refine g_get X G fX1_26 0 rfl rfl dX1_lifeOf_1 ?_
  refine g_get X G fX1_63 2 rfl rfl dX1_lifeOf_4 ?_
  refine lv_iload_n hx hb dX1_lifeOf_7 rfl (lv_at hl 1 rfl) ?_
  refine g_iald (j := o) X G 5 rfl rfl (by omega) (by decide) dX1_lifeOf_8 ?_
  by_cases c1 : (st 2 o) = 0
  · skip
    refine lv_lookup (off := 27) (tgt := 36) hx hb dX1_lifeOf_9 (by decide) (by rw [c1]; decide) (by decide) ?_
    refine lv_aload_n hx hb dX1_lifeOf_36 rfl (lv_at hl 0 rfl) ?_
    refine g_get X G fX1_18 0 rfl rfl dX1_lifeOf_37 ?_
    refine lv_iconst (v := 3) hx hb dX1_lifeOf_40 (by decide) ?_
    refine g_iald (j := 3) X G 1 rfl rfl (by omega) (by decide) dX1_lifeOf_41 ?_
    exact g_iret X hr G rfl (by simp [lifeC, c1]) dX1_lifeOf_42
  by_cases c2 : (st 2 o) = 1
  · skip
    refine lv_lookup (off := 34) (tgt := 43) hx hb dX1_lifeOf_9 (by decide) (by rw [c2]; decide) (by decide) ?_
    refine lv_aload_n hx hb dX1_lifeOf_43 rfl (lv_at hl 0 rfl) ?_
    refine g_get X G fX1_18 0 rfl rfl dX1_lifeOf_44 ?_
    refine lv_iconst (v := 4) hx hb dX1_lifeOf_47 (by decide) ?_
    refine g_iald (j := 4) X G 1 rfl rfl (by omega) (by decide) dX1_lifeOf_48 ?_
    exact g_iret X hr G rfl (by simp [lifeC, c1, c2]) dX1_lifeOf_49
  refine lv_lookup (off := 41) (tgt := 50) hx hb dX1_lifeOf_9 (by decide) (by show Op.lookupswitch.offset [(0, 27), (1, 34)] 41 _ = _; rw [lv_osw c1 (by decide)]; rw [lv_osw c2 (by decide)]; rfl) (by decide) ?_
  refine lv_aload_n hx hb dX1_lifeOf_50 rfl (lv_at hl 0 rfl) ?_
  refine g_get X G fX1_18 0 rfl rfl dX1_lifeOf_51 ?_
  refine lv_iconst (v := 5) hx hb dX1_lifeOf_54 (by decide) ?_
  refine g_iald (j := 5) X G 1 rfl rfl (by omega) (by decide) dX1_lifeOf_55 ?_
  exact g_iret X hr G rfl (by simp [lifeC, c1, c2]) dX1_lifeOf_56
set_option maxHeartbeats 4000000 in
set_option maxRecDepth 100000 in
theorem c_X1_ticksLeft (l : Launch) (E : EE) (a : Nat → Nat) (st : St) (w : va_W) (o : Nat) (ho : o < 16) : Ct l yX1_ticksLeft cX1_ticksLeft 2 (some .int) 1 E [.ref (a 0), .int (nI o)] (wB E a st w) (leftC st o) (wB E a st w) := by
  refine Ct_mk RX1 rfl (by decide +kernel) (Nat.le_of_ble_eq_true rfl) ?_
  intro p e s m below meth c A ls X hr G hl
  have hl : lv_has ls 2 [(0, .ref (a 0)), (1, .int (nI o))] := hl
  obtain ⟨hx, hb, hml, hown, hts, hK, hA, hlocks⟩ := id X
  refine lv_aload_n hx hb dX1_ticksLeft_0 rfl (lv_at hl 0 rfl) ?_
  refine g_get X G fX1_26 0 rfl rfl dX1_ticksLeft_1 ?_
  refine g_get X G fX1_60 2 rfl rfl dX1_ticksLeft_4 ?_
  refine lv_iload_n hx hb dX1_ticksLeft_7 rfl (lv_at hl 1 rfl) ?_
  refine g_iald (j := o) X G 6 rfl rfl (by omega) (by decide) dX1_ticksLeft_8 ?_
  refine lv_aload_n hx hb dX1_ticksLeft_9 rfl (lv_at hl 0 rfl) ?_
  refine lv_iload_n hx hb dX1_ticksLeft_10 rfl (lv_at hl 1 rfl) ?_
  refine g_callV (As := [.int (nI o)]) (rest := [.int (st 3 o)]) X kX1_148 (c_X1_lifeOf l E a st w o (by omega)) G 0 rfl rfl ⟨Nat.le_of_ble_eq_true rfl, Nat.le_of_ble_eq_true rfl⟩ ⟨Nat.le_refl _, Nat.le_refl _⟩ rfl hl.1 rfl (Nat.le_of_ble_eq_true rfl) dX1_ticksLeft_11 (fun H locs G => ?_)
  refine lv_iadd hx hb dX1_ticksLeft_14 ?_
  refine lv_aload_n hx hb dX1_ticksLeft_15 rfl (lv_at hl 0 rfl) ?_
  refine g_get X G fX1_37 0 rfl rfl dX1_ticksLeft_16 ?_
  refine lv_isub hx hb dX1_ticksLeft_19 ?_
  exact g_iret X hr G rfl (by rfl) dX1_ticksLeft_20
set_option maxHeartbeats 4000000 in
set_option maxRecDepth 100000 in
theorem c_X1_endLapsed (l : Launch) (E : EE) (a : Nat → Nat) (st : St) (w : va_W) : Ct l yX1_endLapsed cX1_endLapsed 3 (some .int) 3 E [.ref (a 0)] (wB E a st w) (nI ((endLapC st).2)) (wB E a ((endLapC st).1) w) := by
  refine Ct_mk RX1 rfl (by decide +kernel) (Nat.le_of_ble_eq_true rfl) ?_
  intro p e s m below meth c A ls X hr G hl
  have hl : lv_has ls 3 [(0, .ref (a 0))] := hl
  obtain ⟨hx, hb, hml, hown, hts, hK, hA, hlocks⟩ := id X
  refine lv_iconst (v := 0) hx hb dX1_endLapsed_0 (by decide) ?_
  refine lv_istore_n (lv' := [(1, .int 0), (0, .ref (a 0))]) hx hb dX1_endLapsed_1 rfl hl (by decide) rfl (fun ls hl => ?_)
  refine lv_iconst (v := 0) hx hb dX1_endLapsed_2 (by decide) ?_
  refine lv_istore_n (lv' := [(2, .int 0), (1, .int 0), (0, .ref (a 0))]) hx hb dX1_endLapsed_3 rfl hl (by decide) rfl (fun ls hl => ?_)
  have LP4 : ∀ (n i : Nat) (sx : St) (z : Nat) (H : Heap) (locs : List Loc) (ls : Array Slot), (i + n = 16) → (iF lapS n i (sx, z) = endLapC st) → Gw E A s (wB E a sx w) H locs → lv_has ls 3 [(0, .ref (a 0)), (1, .int (nI z)), (2, .int (nI i))] → W p l e (rmD 3) s m ([.ref (a 0)] : List Value).toArray below meth c H locs 0 0 (MQ below (CtQ E A (nI ((endLapC st).2)) (wB E a ((endLapC st).1) w)) ([.ref (a 0)] : List Value).toArray s 0 0 A) (F0 m 4 ls []) := by
    intro n
    induction n with
    | zero =>
      intro i sx z H locs ls hi hR G hl
      refine lv_iload_n hx hb dX1_endLapsed_4 rfl (lv_at hl 2 rfl) ?_
      refine lv_bipush (v := 16) hx hb dX1_endLapsed_5 (by decide) ?_
      refine n_cmp_ge (tgt := 43) i 16 rfl rfl (by omega) (by omega) hx hb dX1_endLapsed_7 (by decide) (fun c1 => ?_) (fun c1 => ?_)
      · skip
        refine lv_iload_n hx hb dX1_endLapsed_43 rfl (lv_at hl 1 rfl) ?_
        exact g_iret X hr G (congrArg (fun z => wB E a z w) (by rw [← hR]; rfl)) (by rw [← hR]; rfl) dX1_endLapsed_44
      · skip
        exact absurd c1 (by omega)
    | succ n ih4 =>
      intro i sx z H locs ls hi hR G hl
      refine lv_iload_n hx hb dX1_endLapsed_4 rfl (lv_at hl 2 rfl) ?_
      refine lv_bipush (v := 16) hx hb dX1_endLapsed_5 (by decide) ?_
      refine n_cmp_ge (tgt := 43) i 16 rfl rfl (by omega) (by omega) hx hb dX1_endLapsed_7 (by decide) (fun c2 => ?_) (fun c2 => ?_)
      · skip
        exact absurd c2 (by omega)
      · skip
        refine lv_aload_n hx hb dX1_endLapsed_10 rfl (lv_at hl 0 rfl) ?_
        refine g_get X G fX1_26 0 rfl rfl dX1_endLapsed_11 ?_
        refine lv_iload_n hx hb dX1_endLapsed_14 rfl (lv_at hl 2 rfl) ?_
        refine g_callV (As := [.int (nI i)]) (rest := []) X kX1_80 (c_X0_isLent l E a sx w i (by omega)) G 2 rfl rfl ⟨Nat.le_of_ble_eq_true rfl, Nat.le_of_ble_eq_true rfl⟩ ⟨Nat.le_refl _, Nat.le_refl _⟩ rfl hl.1 rfl (Nat.le_of_ble_eq_true rfl) dX1_endLapsed_15 (fun H locs G => ?_)
        refine b_ifeq (tgt := 37) hx hb dX1_endLapsed_18 (by decide) (fun c3 => ?_) (fun c3 => ?_)
        · skip
          refine lv_iinc (v := nI (i + 1)) (lv' := [(2, .int (nI (i + 1))), (0, .ref (a 0)), (1, .int (nI z))]) hx hb dX1_endLapsed_37 hl (k := 2) rfl (nI_inc _) (by decide) rfl (fun ls hl => ?_)
          refine lv_goto (tgt := 4) hx hb dX1_endLapsed_40 (by decide) ?_
          exact ih4 (i + 1) sx z _ _ ls (by omega) (by rw [← hR]; simp [iF, lapS, c2, c3]) G (lv_sub hl [1, 2, 0] rfl)
        · skip
          refine lv_aload_n hx hb dX1_endLapsed_21 rfl (lv_at hl 0 rfl) ?_
          refine lv_iload_n hx hb dX1_endLapsed_22 rfl (lv_at hl 2 rfl) ?_
          refine g_callV (As := [.int (nI i)]) (rest := []) X kX1_127 (c_X1_ticksLeft l E a sx w i (by omega)) G 0 rfl rfl ⟨Nat.le_of_ble_eq_true rfl, Nat.le_of_ble_eq_true rfl⟩ ⟨Nat.le_refl _, Nat.le_refl _⟩ rfl hl.1 rfl (Nat.le_of_ble_eq_true rfl) dX1_endLapsed_23 (fun H locs G => ?_)
          refine lv_if_gt (tgt := 37) hx hb dX1_endLapsed_26 (by decide) (fun c4 => ?_) (fun c4 => ?_)
          · skip
            refine lv_iinc (v := nI (i + 1)) (lv' := [(2, .int (nI (i + 1))), (0, .ref (a 0)), (1, .int (nI z))]) hx hb dX1_endLapsed_37 hl (k := 2) rfl (nI_inc _) (by decide) rfl (fun ls hl => ?_)
            refine lv_goto (tgt := 4) hx hb dX1_endLapsed_40 (by decide) ?_
            exact ih4 (i + 1) sx z _ _ ls (by omega) (by rw [← hR]; simp [iF, lapS, c2, c3, c4]) G (lv_sub hl [1, 2, 0] rfl)
          · skip
            refine lv_aload_n hx hb dX1_endLapsed_29 rfl (lv_at hl 0 rfl) ?_
            refine lv_iload_n hx hb dX1_endLapsed_30 rfl (lv_at hl 2 rfl) ?_
            refine g_callVv (As := [.int (nI i)]) (rest := []) X kX1_151 (c_X1_endBinding l E a sx w i (by omega)) G 0 rfl rfl ⟨Nat.le_of_ble_eq_true rfl, Nat.le_of_ble_eq_true rfl⟩ ⟨Nat.le_refl _, Nat.le_refl _⟩ rfl hl.1 rfl (Nat.le_of_ble_eq_true rfl) dX1_endLapsed_31 (fun H locs G => ?_)
            refine lv_iinc (v := nI (z + 1)) (lv' := [(1, .int (nI (z + 1))), (0, .ref (a 0)), (2, .int (nI i))]) hx hb dX1_endLapsed_34 hl (k := 1) rfl (nI_inc _) (by decide) rfl (fun ls hl => ?_)
            refine lv_iinc (v := nI (i + 1)) (lv' := [(2, .int (nI (i + 1))), (1, .int (nI (z + 1))), (0, .ref (a 0))]) hx hb dX1_endLapsed_37 hl (k := 2) rfl (nI_inc _) (by decide) rfl (fun ls hl => ?_)
            refine lv_goto (tgt := 4) hx hb dX1_endLapsed_40 (by decide) ?_
            exact ih4 (i + 1) (endB i sx) (z + 1) _ _ ls (by omega) (by rw [← hR]; simp [iF, lapS, c2, c3, c4]) G (lv_sub hl [2, 1, 0] rfl)
  exact LP4 16 0 st 0 _ _ ls (by omega) rfl G (lv_sub hl [2, 1, 0] rfl)
set_option maxHeartbeats 4000000 in
set_option maxRecDepth 100000 in
theorem c_X1_setRule (l : Launch) (E : EE) (a : Nat → Nat) (st : St) (w : va_W) (what : Nat) (hwhat : what < 6) (v : Int32) : Ct l yX1_setRule cX1_setRule 4 (some .int) 4 E [.ref (a 0), .int (nI what), .int v] (wB E a st w) (st 0 what) (wB E a (setRuleC st what v) w) := by
  refine Ct_mk RX1 rfl (by decide +kernel) (Nat.le_of_ble_eq_true rfl) ?_
  intro p e s m below meth c A ls X hr G hl
  have hl : lv_has ls 4 [(0, .ref (a 0)), (1, .int (nI what)), (2, .int v)] := hl
  obtain ⟨hx, hb, hml, hown, hts, hK, hA, hlocks⟩ := id X
  refine lv_aload_n hx hb dX1_setRule_0 rfl (lv_at hl 0 rfl) ?_
  refine g_get X G fX1_18 0 rfl rfl dX1_setRule_1 ?_
  refine lv_iload_n hx hb dX1_setRule_4 rfl (lv_at hl 1 rfl) ?_
  refine g_iald (j := what) X G 1 rfl rfl (by omega) (by decide) dX1_setRule_5 ?_
  refine lv_istore_n (lv' := [(3, .int (st 0 what)), (0, .ref (a 0)), (1, .int (nI what)), (2, .int v)]) hx hb dX1_setRule_6 rfl hl (by decide) rfl (fun ls hl => ?_)
  refine lv_aload_n hx hb dX1_setRule_7 rfl (lv_at hl 1 rfl) ?_
  refine g_get X G fX1_18 0 rfl rfl dX1_setRule_8 ?_
  refine lv_iload_n hx hb dX1_setRule_11 rfl (lv_at hl 2 rfl) ?_
  refine lv_iload_n hx hb dX1_setRule_12 rfl (lv_at hl 3 rfl) ?_
  refine g_iast (j := what) X G 1 rfl rfl (by omega) (by decide) dX1_setRule_13 (fun H locs G => ?_)
  have G : Gw E A s (wB E a (sU st 0 what v) w) H locs := G
  refine lv_iload_n hx hb dX1_setRule_14 rfl (lv_at hl 2 rfl) ?_
  refine n_if_ne (tgt := 27) what rfl (by omega) hx hb dX1_setRule_15 (by decide) (fun c1 => ?_) (fun c1 => ?_)
  · skip
    refine lv_aload_n hx hb dX1_setRule_27 rfl (lv_at hl 1 rfl) ?_
    refine g_callV (As := []) (rest := []) X kX1_44 (c_X1_endLapsed l E a (sU st 0 what v) w) G 0 rfl rfl ⟨Nat.le_of_ble_eq_true rfl, Nat.le_of_ble_eq_true rfl⟩ ⟨Nat.le_refl _, Nat.le_refl _⟩ rfl hl.1 rfl (Nat.le_of_ble_eq_true rfl) dX1_setRule_28 (fun H locs G => ?_)
    refine lv_pop hx hb dX1_setRule_31 rfl ?_
    refine lv_iload_n hx hb dX1_setRule_32 rfl (lv_at hl 0 rfl) ?_
    exact g_iret X hr G (congrArg (fun z => wB E a z w) (by clear G hl X hr hK hts; simp_all [setRuleC])) rfl dX1_setRule_33
  · skip
    refine lv_iload_n hx hb dX1_setRule_18 rfl (lv_at hl 3 rfl) ?_
    refine lv_iload_n hx hb dX1_setRule_19 rfl (lv_at hl 0 rfl) ?_
    refine lv_icmp_eq (tgt := 27) hx hb dX1_setRule_20 (by decide) (fun c2 => ?_) (fun c2 => ?_)
    · skip
      refine lv_aload_n hx hb dX1_setRule_27 rfl (lv_at hl 1 rfl) ?_
      refine g_callV (As := []) (rest := []) X kX1_44 (c_X1_endLapsed l E a (sU st 0 what v) w) G 0 rfl rfl ⟨Nat.le_of_ble_eq_true rfl, Nat.le_of_ble_eq_true rfl⟩ ⟨Nat.le_refl _, Nat.le_refl _⟩ rfl hl.1 rfl (Nat.le_of_ble_eq_true rfl) dX1_setRule_28 (fun H locs G => ?_)
      refine lv_pop hx hb dX1_setRule_31 rfl ?_
      refine lv_iload_n hx hb dX1_setRule_32 rfl (lv_at hl 0 rfl) ?_
      exact g_iret X hr G (congrArg (fun z => wB E a z w) (by clear G hl X hr hK hts; simp_all [setRuleC])) rfl dX1_setRule_33
    · skip
      refine lv_aload_n hx hb dX1_setRule_23 rfl (lv_at hl 1 rfl) ?_
      refine g_callVv (As := []) (rest := []) X kX1_41 (c_X1_endAll l E a (sU st 0 what v) w) G 0 rfl rfl ⟨Nat.le_of_ble_eq_true rfl, Nat.le_of_ble_eq_true rfl⟩ ⟨Nat.le_refl _, Nat.le_refl _⟩ rfl hl.1 rfl (Nat.le_of_ble_eq_true rfl) dX1_setRule_24 (fun H locs G => ?_)
      refine lv_aload_n hx hb dX1_setRule_27 rfl (lv_at hl 1 rfl) ?_
      refine g_callV (As := []) (rest := []) X kX1_44 (c_X1_endLapsed l E a (endAllC (sU st 0 what v)) w) G 0 rfl rfl ⟨Nat.le_of_ble_eq_true rfl, Nat.le_of_ble_eq_true rfl⟩ ⟨Nat.le_refl _, Nat.le_refl _⟩ rfl hl.1 rfl (Nat.le_of_ble_eq_true rfl) dX1_setRule_28 (fun H locs G => ?_)
      refine lv_pop hx hb dX1_setRule_31 rfl ?_
      refine lv_iload_n hx hb dX1_setRule_32 rfl (lv_at hl 0 rfl) ?_
      exact g_iret X hr G (congrArg (fun z => wB E a z w) (by clear G hl X hr hK hts; simp_all [setRuleC])) rfl dX1_setRule_33
set_option maxHeartbeats 4000000 in
set_option maxRecDepth 100000 in
theorem c_X1_isFit (l : Launch) (E : EE) (a : Nat → Nat) (st : St) (w : va_W) (o : Nat) (ho : o < 16) (port : Nat) (hport : port < 32) : Ct l yX1_isFit cX1_isFit 3 (some .boolean) 1 E [.ref (a 0), .int (nI o), .int (nI port)] (wB E a st w) (bI (fitC st o port)) (wB E a st w) := by
  refine Ct_mk RX1 rfl (by decide +kernel) (Nat.le_of_ble_eq_true rfl) ?_
  intro p e s m below meth c A ls X hr G hl
  have hl : lv_has ls 3 [(0, .ref (a 0)), (1, .int (nI o)), (2, .int (nI port))] := hl
  obtain ⟨hx, hb, hml, hown, hts, hK, hA, hlocks⟩ := id X
  refine lv_aload_n hx hb dX1_isFit_0 rfl (lv_at hl 0 rfl) ?_
  refine g_get X G fX1_26 0 rfl rfl dX1_isFit_1 ?_
  refine lv_iload_n hx hb dX1_isFit_4 rfl (lv_at hl 1 rfl) ?_
  refine g_callV (As := [.int (nI o)]) (rest := []) X kX1_80 (c_X0_isLent l E a st w o (by omega)) G 2 rfl rfl ⟨Nat.le_of_ble_eq_true rfl, Nat.le_of_ble_eq_true rfl⟩ ⟨Nat.le_refl _, Nat.le_refl _⟩ rfl hl.1 rfl (Nat.le_of_ble_eq_true rfl) dX1_isFit_5 (fun H locs G => ?_)
  refine b_ifne (tgt := 33) hx hb dX1_isFit_8 (by decide) (fun c1 => ?_) (fun c1 => ?_)
  · skip
    refine lv_iconst (v := 0) hx hb dX1_isFit_33 (by decide) ?_
    exact g_ret X hr rfl G rfl (by simp [fitC, bI, c1]) dX1_isFit_34
  · skip
    refine lv_aload_n hx hb dX1_isFit_11 rfl (lv_at hl 0 rfl) ?_
    refine g_get X G fX1_18 0 rfl rfl dX1_isFit_12 ?_
    refine lv_iconst (v := 2) hx hb dX1_isFit_15 (by decide) ?_
    refine g_iald (j := 2) X G 1 rfl rfl (by omega) (by decide) dX1_isFit_16 ?_
    refine lv_if_eq (tgt := 29) hx hb dX1_isFit_17 (by decide) (fun c2 => ?_) (fun c2 => ?_)
    · skip
      refine lv_iconst (v := 1) hx hb dX1_isFit_29 (by decide) ?_
      refine lv_goto (tgt := 34) hx hb dX1_isFit_30 (by decide) ?_
      exact g_ret X hr rfl G rfl (by simp [fitC, bI, c1, c2]) dX1_isFit_34
    · skip
      refine lv_iload_n hx hb dX1_isFit_20 rfl (lv_at hl 1 rfl) ?_
      refine lv_iconst (v := 2) hx hb dX1_isFit_21 (by decide) ?_
      refine n_irem o 2 rfl rfl (by omega) (by decide) (by decide) hx hb dX1_isFit_22 ?_
      refine lv_iload_n hx hb dX1_isFit_23 rfl (lv_at hl 2 rfl) ?_
      refine lv_iconst (v := 2) hx hb dX1_isFit_24 (by decide) ?_
      refine n_irem port 2 rfl rfl (by omega) (by decide) (by decide) hx hb dX1_isFit_25 ?_
      refine n_cmp_ne (tgt := 33) (o % 2) (port % 2) rfl rfl (by omega) (by omega) hx hb dX1_isFit_26 (by decide) (fun c3 => ?_) (fun c3 => ?_)
      · skip
        refine lv_iconst (v := 0) hx hb dX1_isFit_33 (by decide) ?_
        exact g_ret X hr rfl G rfl (by simp [fitC, bI, c1, c2, c3]) dX1_isFit_34
      · skip
        refine lv_iconst (v := 1) hx hb dX1_isFit_29 (by decide) ?_
        refine lv_goto (tgt := 34) hx hb dX1_isFit_30 (by decide) ?_
        exact g_ret X hr rfl G rfl (by simp [fitC, bI, c1, c2, c3]) dX1_isFit_34
set_option maxHeartbeats 4000000 in
set_option maxRecDepth 100000 in
theorem c_X1_leastFitOfBlock (l : Launch) (E : EE) (a : Nat → Nat) (st : St) (w : va_W) (b : Nat) (hb : b < 4) (port : Nat) (hport : port < 32) : Ct l yX1_leastFitOfBlock cX1_leastFitOfBlock 4 (some .int) 2 E [.ref (a 0), .int (nI b), .int (nI port)] (wB E a st w) (oI (lfbC st b port)) (wB E a st w) := by
  refine Ct_mk RX1 rfl (by decide +kernel) (Nat.le_of_ble_eq_true rfl) ?_
  intro p e s m below meth c A ls X hr G hl
  have hl : lv_has ls 4 [(0, .ref (a 0)), (1, .int (nI b)), (2, .int (nI port))] := hl
  obtain ⟨hx, hb, hml, hown, hts, hK, hA, hlocks⟩ := id X
  refine lv_iconst (v := 0) hx hb dX1_leastFitOfBlock_0 (by decide) ?_
  refine lv_istore_n (lv' := [(3, .int 0), (0, .ref (a 0)), (1, .int (nI b)), (2, .int (nI port))]) hx hb dX1_leastFitOfBlock_1 rfl hl (by decide) rfl (fun ls hl => ?_)
  have LP2 : ∀ (n i : Nat)  (H : Heap) (locs : List Loc) (ls : Array Slot), (i + n = 4) → (oI ((fF (fun i => fitC st (b * 4 + i) port) n i).map (fun i => b * 4 + i)) = oI (lfbC st b port)) → Gw E A s (wB E a st w) H locs → lv_has ls 4 [(0, .ref (a 0)), (1, .int (nI b)), (2, .int (nI port)), (3, .int (nI i))] → W p l e (rmD 2) s m ([.ref (a 0), .int (nI b), .int (nI port)] : List Value).toArray below meth c H locs 0 0 (MQ below (CtQ E A (oI (lfbC st b port)) (wB E a st w)) ([.ref (a 0), .int (nI b), .int (nI port)] : List Value).toArray s 0 0 A) (F0 m 2 ls []) := by
    intro n
    induction n with
    | zero =>
      intro i  H locs ls hi hR G hl
      refine lv_iload_n hx hb dX1_leastFitOfBlock_2 rfl (lv_at hl 3 rfl) ?_
      refine lv_iconst (v := 4) hx hb dX1_leastFitOfBlock_3 (by decide) ?_
      refine n_cmp_ge (tgt := 32) i 4 rfl rfl (by omega) (by omega) hx hb dX1_leastFitOfBlock_4 (by decide) (fun c1 => ?_) (fun c1 => ?_)
      · skip
        refine lv_bipush (v := (-6)) hx hb dX1_leastFitOfBlock_32 (by decide) ?_
        exact g_iret X hr G rfl (by rw [← hR]; simp [fF, oI, c1]) dX1_leastFitOfBlock_34
      · skip
        exact absurd c1 (by omega)
    | succ n ih2 =>
      intro i  H locs ls hi hR G hl
      refine lv_iload_n hx hb dX1_leastFitOfBlock_2 rfl (lv_at hl 3 rfl) ?_
      refine lv_iconst (v := 4) hx hb dX1_leastFitOfBlock_3 (by decide) ?_
      refine n_cmp_ge (tgt := 32) i 4 rfl rfl (by omega) (by omega) hx hb dX1_leastFitOfBlock_4 (by decide) (fun c2 => ?_) (fun c2 => ?_)
      · skip
        exact absurd c2 (by omega)
      · skip
        refine lv_aload_n hx hb dX1_leastFitOfBlock_7 rfl (lv_at hl 0 rfl) ?_
        refine lv_iload_n hx hb dX1_leastFitOfBlock_8 rfl (lv_at hl 1 rfl) ?_
        refine lv_iconst (v := 4) hx hb dX1_leastFitOfBlock_9 (by decide) ?_
        refine n_imul b 4 rfl rfl hx hb dX1_leastFitOfBlock_10 ?_
        refine lv_iload_n hx hb dX1_leastFitOfBlock_11 rfl (lv_at hl 3 rfl) ?_
        refine n_iadd (b * 4) i rfl rfl hx hb dX1_leastFitOfBlock_12 ?_
        refine lv_iload_n hx hb dX1_leastFitOfBlock_13 rfl (lv_at hl 2 rfl) ?_
        refine g_callV (As := [.int (nI ((b * 4) + i)), .int (nI port)]) (rest := []) X kX1_115 (c_X1_isFit l E a st w ((b * 4) + i) (by omega) port (by omega)) G 0 rfl rfl ⟨Nat.le_of_ble_eq_true rfl, Nat.le_of_ble_eq_true rfl⟩ ⟨Nat.le_refl _, Nat.le_refl _⟩ rfl hl.1 rfl (Nat.le_of_ble_eq_true rfl) dX1_leastFitOfBlock_14 (fun H locs G => ?_)
        refine b_ifeq (tgt := 26) hx hb dX1_leastFitOfBlock_17 (by decide) (fun c3 => ?_) (fun c3 => ?_)
        · skip
          refine lv_iinc (v := nI (i + 1)) (lv' := [(3, .int (nI (i + 1))), (0, .ref (a 0)), (1, .int (nI b)), (2, .int (nI port))]) hx hb dX1_leastFitOfBlock_26 hl (k := 3) rfl (nI_inc _) (by decide) rfl (fun ls hl => ?_)
          refine lv_goto (tgt := 2) hx hb dX1_leastFitOfBlock_29 (by decide) ?_
          exact ih2 (i + 1)  _ _ ls (by omega) (by rw [← hR]; simp [fF, c2, c3]) G (lv_sub hl [1, 2, 3, 0] rfl)
        · skip
          refine lv_iload_n hx hb dX1_leastFitOfBlock_20 rfl (lv_at hl 1 rfl) ?_
          refine lv_iconst (v := 4) hx hb dX1_leastFitOfBlock_21 (by decide) ?_
          refine n_imul b 4 rfl rfl hx hb dX1_leastFitOfBlock_22 ?_
          refine lv_iload_n hx hb dX1_leastFitOfBlock_23 rfl (lv_at hl 3 rfl) ?_
          refine n_iadd (b * 4) i rfl rfl hx hb dX1_leastFitOfBlock_24 ?_
          exact g_iret X hr G rfl (by rw [← hR]; simp [fF, oI, c2, c3]) dX1_leastFitOfBlock_25
  exact LP2 4 0  _ _ ls (by omega) rfl G (lv_sub hl [1, 2, 3, 0] rfl)
set_option maxHeartbeats 4000000 in
set_option maxRecDepth 100000 in
theorem c_X1_leastFitOfHolder (l : Launch) (E : EE) (a : Nat → Nat) (st : St) (w : va_W) (h : Int32) (port : Nat) (hport : port < 32) : Ct l yX1_leastFitOfHolder cX1_leastFitOfHolder 5 (some .int) 3 E [.ref (a 0), .int h, .int (nI port)] (wB E a st w) (oI (lfhF st h port 4 0)) (wB E a st w) := by
  refine Ct_mk RX1 rfl (by decide +kernel) (Nat.le_of_ble_eq_true rfl) ?_
  intro p e s m below meth c A ls X hr G hl
  have hl : lv_has ls 5 [(0, .ref (a 0)), (1, .int h), (2, .int (nI port))] := hl
  obtain ⟨hx, hb, hml, hown, hts, hK, hA, hlocks⟩ := id X
  refine lv_iconst (v := 0) hx hb dX1_leastFitOfHolder_0 (by decide) ?_
  refine lv_istore_n (lv' := [(3, .int 0), (0, .ref (a 0)), (1, .int h), (2, .int (nI port))]) hx hb dX1_leastFitOfHolder_1 rfl hl (by decide) rfl (fun ls hl => ?_)
  have LP2 : ∀ (n i : Nat)  (H : Heap) (locs : List Loc) (ls : Array Slot), (i + n = 4) → (oI (lfhF st h port n i) = oI (lfhF st h port 4 0)) → Gw E A s (wB E a st w) H locs → lv_has ls 5 [(0, .ref (a 0)), (1, .int h), (2, .int (nI port)), (3, .int (nI i))] → W p l e (rmD 3) s m ([.ref (a 0), .int h, .int (nI port)] : List Value).toArray below meth c H locs 0 0 (MQ below (CtQ E A (oI (lfhF st h port 4 0)) (wB E a st w)) ([.ref (a 0), .int h, .int (nI port)] : List Value).toArray s 0 0 A) (F0 m 2 ls []) := by
    intro n
    induction n with
    | zero =>
      intro i  H locs ls hi hR G hl
      refine lv_iload_n hx hb dX1_leastFitOfHolder_2 rfl (lv_at hl 3 rfl) ?_
      refine lv_iconst (v := 4) hx hb dX1_leastFitOfHolder_3 (by decide) ?_
      refine n_cmp_ge (tgt := 43) i 4 rfl rfl (by omega) (by omega) hx hb dX1_leastFitOfHolder_4 (by decide) (fun c1 => ?_) (fun c1 => ?_)
      · skip
        refine lv_bipush (v := (-6)) hx hb dX1_leastFitOfHolder_43 (by decide) ?_
        exact g_iret X hr G rfl (by rw [← hR]; simp [lfhF, oI, c1]) dX1_leastFitOfHolder_45
      · skip
        exact absurd c1 (by omega)
    | succ n ih2 =>
      intro i  H locs ls hi hR G hl
      refine lv_iload_n hx hb dX1_leastFitOfHolder_2 rfl (lv_at hl 3 rfl) ?_
      refine lv_iconst (v := 4) hx hb dX1_leastFitOfHolder_3 (by decide) ?_
      refine n_cmp_ge (tgt := 43) i 4 rfl rfl (by omega) (by omega) hx hb dX1_leastFitOfHolder_4 (by decide) (fun c2 => ?_) (fun c2 => ?_)
      · skip
        exact absurd c2 (by omega)
      · skip
        refine lv_aload_n hx hb dX1_leastFitOfHolder_7 rfl (lv_at hl 0 rfl) ?_
        refine g_get X G fX1_26 0 rfl rfl dX1_leastFitOfHolder_8 ?_
        refine lv_iload_n hx hb dX1_leastFitOfHolder_11 rfl (lv_at hl 3 rfl) ?_
        refine g_callV (As := [.int (nI i)]) (rest := []) X kX1_118 (c_X0_holderOf l E a st w i (by omega)) G 2 rfl rfl ⟨Nat.le_of_ble_eq_true rfl, Nat.le_of_ble_eq_true rfl⟩ ⟨Nat.le_refl _, Nat.le_refl _⟩ rfl hl.1 rfl (Nat.le_of_ble_eq_true rfl) dX1_leastFitOfHolder_12 (fun H locs G => ?_)
        refine lv_iload_n hx hb dX1_leastFitOfHolder_15 rfl (lv_at hl 1 rfl) ?_
        refine lv_icmp_ne (tgt := 37) hx hb dX1_leastFitOfHolder_16 (by decide) (fun c3 => ?_) (fun c3 => ?_)
        · skip
          refine lv_iinc (v := nI (i + 1)) (lv' := [(3, .int (nI (i + 1))), (0, .ref (a 0)), (1, .int h), (2, .int (nI port))]) hx hb dX1_leastFitOfHolder_37 hl (k := 3) rfl (nI_inc _) (by decide) rfl (fun ls hl => ?_)
          refine lv_goto (tgt := 2) hx hb dX1_leastFitOfHolder_40 (by decide) ?_
          exact ih2 (i + 1)  _ _ ls (by omega) (by rw [← hR]; simp [lfhF, c2, c3]) G (lv_sub hl [1, 2, 3, 0] rfl)
        · skip
          refine lv_aload_n hx hb dX1_leastFitOfHolder_19 rfl (lv_at hl 0 rfl) ?_
          refine lv_iload_n hx hb dX1_leastFitOfHolder_20 rfl (lv_at hl 3 rfl) ?_
          refine lv_iload_n hx hb dX1_leastFitOfHolder_21 rfl (lv_at hl 2 rfl) ?_
          refine g_callV (As := [.int (nI i), .int (nI port)]) (rest := []) X kX1_124 (c_X1_leastFitOfBlock l E a st w i (by omega) port (by omega)) G 0 rfl rfl ⟨Nat.le_of_ble_eq_true rfl, Nat.le_of_ble_eq_true rfl⟩ ⟨Nat.le_refl _, Nat.le_refl _⟩ rfl hl.1 rfl (Nat.le_of_ble_eq_true rfl) dX1_leastFitOfHolder_22 (fun H locs G => ?_)
          refine o_split (fun c5 => ?_) (fun j4 c6 => ?_)
          · skip
            refine lv_istore (lv' := [(4, .int (-6)), (0, .ref (a 0)), (1, .int h), (2, .int (nI port)), (3, .int (nI i))]) hx hb dX1_leastFitOfHolder_25 hl (by decide) rfl (fun ls hl => ?_)
            refine lv_iload hx hb dX1_leastFitOfHolder_27 (lv_at hl 0 rfl) ?_
            refine lv_bipush (v := (-6)) hx hb dX1_leastFitOfHolder_29 (by decide) ?_
            refine lv_icmp_eq (tgt := 37) hx hb dX1_leastFitOfHolder_31 (by decide) (fun c7 => ?_) (fun c7 => ?_)
            · skip
              refine lv_iinc (v := nI (i + 1)) (lv' := [(3, .int (nI (i + 1))), (4, .int (-6)), (0, .ref (a 0)), (1, .int h), (2, .int (nI port))]) hx hb dX1_leastFitOfHolder_37 hl (k := 4) rfl (nI_inc _) (by decide) rfl (fun ls hl => ?_)
              refine lv_goto (tgt := 2) hx hb dX1_leastFitOfHolder_40 (by decide) ?_
              exact ih2 (i + 1)  _ _ ls (by omega) (by rw [← hR]; simp [lfhF, c2, c3, c5]) G (lv_sub hl [2, 3, 4, 0] rfl)
            · skip
              exact absurd c7 (by decide)
          · skip
            have bj4 : j4 < 16 := by have := lfbC_lt c6; omega
            refine lv_istore (lv' := [(4, .int (nI j4)), (0, .ref (a 0)), (1, .int h), (2, .int (nI port)), (3, .int (nI i))]) hx hb dX1_leastFitOfHolder_25 hl (by decide) rfl (fun ls hl => ?_)
            refine lv_iload hx hb dX1_leastFitOfHolder_27 (lv_at hl 0 rfl) ?_
            refine lv_bipush (v := (-6)) hx hb dX1_leastFitOfHolder_29 (by decide) ?_
            refine lv_icmp_eq (tgt := 37) hx hb dX1_leastFitOfHolder_31 (by decide) (fun c8 => ?_) (fun c8 => ?_)
            · skip
              exact absurd c8 (nI_m6 (by omega))
            · skip
              refine lv_iload hx hb dX1_leastFitOfHolder_34 (lv_at hl 0 rfl) ?_
              exact g_iret X hr G rfl (by rw [← hR]; simp [lfhF, oI, c2, c3, c6]) dX1_leastFitOfHolder_36
  exact LP2 4 0  _ _ ls (by omega) rfl G (lv_sub hl [1, 2, 3, 0] rfl)
set_option maxHeartbeats 4000000 in
set_option maxRecDepth 100000 in
theorem c_X1_choose (l : Launch) (E : EE) (a : Nat → Nat) (st : St) (w : va_W) (h : Int32) (port : Nat) (hport : port < 32) : Ct l yX1_choose cX1_choose 6 (some .int) 4 E [.ref (a 0), .int h, .int (nI port)] (wB E a st w) (oI (chooseC st h port)) (wB E a st w) := by
  refine Ct_mk RX1 rfl (by decide +kernel) (Nat.le_of_ble_eq_true rfl) ?_
  intro p e s m below meth c A ls X hr G hl
  have hl : lv_has ls 6 [(0, .ref (a 0)), (1, .int h), (2, .int (nI port))] := hl
  obtain ⟨hx, hb, hml, hown, hts, hK, hA, hlocks⟩ := id X
  refine lv_iload_n hx hb dX1_choose_0 rfl (lv_at hl 2 rfl) ?_
  refine lv_bipush (v := 16) hx hb dX1_choose_1 (by decide) ?_
  refine n_irem port 16 rfl rfl (by omega) (by decide) (by decide) hx hb dX1_choose_3 ?_
  refine lv_istore_n (lv' := [(3, .int (nI (port % 16))), (0, .ref (a 0)), (1, .int h), (2, .int (nI port))]) hx hb dX1_choose_4 rfl hl (by decide) rfl (fun ls hl => ?_)
  refine lv_iload_n hx hb dX1_choose_5 rfl (lv_at hl 0 rfl) ?_
  refine lv_iconst (v := 4) hx hb dX1_choose_6 (by decide) ?_
  refine n_idiv (port % 16) 4 rfl rfl (by omega) (by decide) (by decide) hx hb dX1_choose_7 ?_
  refine lv_istore (lv' := [(4, .int (nI ((port % 16) / 4))), (3, .int (nI (port % 16))), (0, .ref (a 0)), (1, .int h), (2, .int (nI port))]) hx hb dX1_choose_8 hl (by decide) rfl (fun ls hl => ?_)
  refine lv_aload_n hx hb dX1_choose_10 rfl (lv_at hl 2 rfl) ?_
  refine lv_iload_n hx hb dX1_choose_11 rfl (lv_at hl 1 rfl) ?_
  refine lv_iload_n hx hb dX1_choose_12 rfl (lv_at hl 4 rfl) ?_
  refine g_callV (As := [.int (nI (port % 16)), .int (nI port)]) (rest := []) X kX1_115 (c_X1_isFit l E a st w (port % 16) (by omega) port (by omega)) G 0 rfl rfl ⟨Nat.le_of_ble_eq_true rfl, Nat.le_of_ble_eq_true rfl⟩ ⟨Nat.le_refl _, Nat.le_refl _⟩ rfl hl.1 rfl (Nat.le_of_ble_eq_true rfl) dX1_choose_13 (fun H locs G => ?_)
  refine b_ifeq (tgt := 34) hx hb dX1_choose_16 (by decide) (fun c1 => ?_) (fun c1 => ?_)
  · skip
    refine lv_aload_n hx hb dX1_choose_34 rfl (lv_at hl 2 rfl) ?_
    refine lv_iload_n hx hb dX1_choose_35 rfl (lv_at hl 3 rfl) ?_
    refine lv_iload_n hx hb dX1_choose_36 rfl (lv_at hl 4 rfl) ?_
    refine g_callV (As := [.int h, .int (nI port)]) (rest := []) X kX1_121 (c_X1_leastFitOfHolder l E a st w h port (by omega)) G 0 rfl rfl ⟨Nat.le_of_ble_eq_true rfl, Nat.le_of_ble_eq_true rfl⟩ ⟨Nat.le_refl _, Nat.le_refl _⟩ rfl hl.1 rfl (Nat.le_of_ble_eq_true rfl) dX1_choose_37 (fun H locs G => ?_)
    refine o_split (fun c3 => ?_) (fun j2 c4 => ?_)
    · skip
      refine lv_istore (lv' := [(5, .int (-6)), (4, .int (nI ((port % 16) / 4))), (3, .int (nI (port % 16))), (0, .ref (a 0)), (1, .int h), (2, .int (nI port))]) hx hb dX1_choose_40 hl (by decide) rfl (fun ls hl => ?_)
      refine lv_iload hx hb dX1_choose_42 (lv_at hl 0 rfl) ?_
      refine lv_bipush (v := (-6)) hx hb dX1_choose_44 (by decide) ?_
      refine lv_icmp_eq (tgt := 52) hx hb dX1_choose_46 (by decide) (fun c5 => ?_) (fun c5 => ?_)
      · skip
        refine lv_aload_n hx hb dX1_choose_52 rfl (lv_at hl 3 rfl) ?_
        refine g_get X G fX1_26 0 rfl rfl dX1_choose_53 ?_
        refine lv_iload hx hb dX1_choose_56 (lv_at hl 1 rfl) ?_
        refine g_callV (As := [.int (nI ((port % 16) / 4))]) (rest := []) X kX1_118 (c_X0_holderOf l E a st w ((port % 16) / 4) (by omega)) G 2 rfl rfl ⟨Nat.le_of_ble_eq_true rfl, Nat.le_of_ble_eq_true rfl⟩ ⟨Nat.le_refl _, Nat.le_refl _⟩ rfl hl.1 rfl (Nat.le_of_ble_eq_true rfl) dX1_choose_58 (fun H locs G => ?_)
        refine lv_bipush (v := (-6)) hx hb dX1_choose_61 (by decide) ?_
        refine lv_icmp_ne (tgt := 68) hx hb dX1_choose_63 (by decide) (fun c6 => ?_) (fun c6 => ?_)
        · skip
          refine lv_aload_n hx hb dX1_choose_68 rfl (lv_at hl 3 rfl) ?_
          refine lv_bipush (v := (-6)) hx hb dX1_choose_69 (by decide) ?_
          refine lv_iload_n hx hb dX1_choose_71 rfl (lv_at hl 5 rfl) ?_
          refine g_callV (As := [.int (-6), .int (nI port)]) (rest := []) X kX1_121 (c_X1_leastFitOfHolder l E a st w (-6) port (by omega)) G 0 rfl rfl ⟨Nat.le_of_ble_eq_true rfl, Nat.le_of_ble_eq_true rfl⟩ ⟨Nat.le_refl _, Nat.le_refl _⟩ rfl hl.1 rfl (Nat.le_of_ble_eq_true rfl) dX1_choose_72 (fun H locs G => ?_)
          refine o_split (fun c8 => ?_) (fun j7 c9 => ?_)
          · skip
            exact g_iret X hr G rfl (by simp [chooseC, oI, c1, c3, c6, c8]) dX1_choose_75
          · skip
            have bj7 : j7 < 16 := by have := lfhF_lt c9; omega
            exact g_iret X hr G rfl (by simp [chooseC, oI, c1, c3, c6, c9]) dX1_choose_75
        · skip
          refine lv_iload_n hx hb dX1_choose_66 rfl (lv_at hl 2 rfl) ?_
          exact g_iret X hr G rfl (by simp [chooseC, oI, c1, c3, c6]) dX1_choose_67
      · skip
        exact absurd c5 (by decide)
    · skip
      have bj2 : j2 < 16 := by have := lfhF_lt c4; omega
      refine lv_istore (lv' := [(5, .int (nI j2)), (4, .int (nI ((port % 16) / 4))), (3, .int (nI (port % 16))), (0, .ref (a 0)), (1, .int h), (2, .int (nI port))]) hx hb dX1_choose_40 hl (by decide) rfl (fun ls hl => ?_)
      refine lv_iload hx hb dX1_choose_42 (lv_at hl 0 rfl) ?_
      refine lv_bipush (v := (-6)) hx hb dX1_choose_44 (by decide) ?_
      refine lv_icmp_eq (tgt := 52) hx hb dX1_choose_46 (by decide) (fun c10 => ?_) (fun c10 => ?_)
      · skip
        exact absurd c10 (nI_m6 (by omega))
      · skip
        refine lv_iload hx hb dX1_choose_49 (lv_at hl 0 rfl) ?_
        exact g_iret X hr G rfl (by simp [chooseC, oI, c1, c4]) dX1_choose_51
  · skip
    refine lv_aload_n hx hb dX1_choose_19 rfl (lv_at hl 2 rfl) ?_
    refine g_get X G fX1_26 0 rfl rfl dX1_choose_20 ?_
    refine lv_iload hx hb dX1_choose_23 (lv_at hl 0 rfl) ?_
    refine g_callV (As := [.int (nI ((port % 16) / 4))]) (rest := []) X kX1_118 (c_X0_holderOf l E a st w ((port % 16) / 4) (by omega)) G 2 rfl rfl ⟨Nat.le_of_ble_eq_true rfl, Nat.le_of_ble_eq_true rfl⟩ ⟨Nat.le_refl _, Nat.le_refl _⟩ rfl hl.1 rfl (Nat.le_of_ble_eq_true rfl) dX1_choose_25 (fun H locs G => ?_)
    refine lv_iload_n hx hb dX1_choose_28 rfl (lv_at hl 3 rfl) ?_
    refine lv_icmp_ne (tgt := 34) hx hb dX1_choose_29 (by decide) (fun c11 => ?_) (fun c11 => ?_)
    · skip
      refine lv_aload_n hx hb dX1_choose_34 rfl (lv_at hl 2 rfl) ?_
      refine lv_iload_n hx hb dX1_choose_35 rfl (lv_at hl 3 rfl) ?_
      refine lv_iload_n hx hb dX1_choose_36 rfl (lv_at hl 4 rfl) ?_
      refine g_callV (As := [.int h, .int (nI port)]) (rest := []) X kX1_121 (c_X1_leastFitOfHolder l E a st w h port (by omega)) G 0 rfl rfl ⟨Nat.le_of_ble_eq_true rfl, Nat.le_of_ble_eq_true rfl⟩ ⟨Nat.le_refl _, Nat.le_refl _⟩ rfl hl.1 rfl (Nat.le_of_ble_eq_true rfl) dX1_choose_37 (fun H locs G => ?_)
      refine o_split (fun c13 => ?_) (fun j12 c14 => ?_)
      · skip
        refine lv_istore (lv' := [(5, .int (-6)), (4, .int (nI ((port % 16) / 4))), (3, .int (nI (port % 16))), (0, .ref (a 0)), (1, .int h), (2, .int (nI port))]) hx hb dX1_choose_40 hl (by decide) rfl (fun ls hl => ?_)
        refine lv_iload hx hb dX1_choose_42 (lv_at hl 0 rfl) ?_
        refine lv_bipush (v := (-6)) hx hb dX1_choose_44 (by decide) ?_
        refine lv_icmp_eq (tgt := 52) hx hb dX1_choose_46 (by decide) (fun c15 => ?_) (fun c15 => ?_)
        · skip
          refine lv_aload_n hx hb dX1_choose_52 rfl (lv_at hl 3 rfl) ?_
          refine g_get X G fX1_26 0 rfl rfl dX1_choose_53 ?_
          refine lv_iload hx hb dX1_choose_56 (lv_at hl 1 rfl) ?_
          refine g_callV (As := [.int (nI ((port % 16) / 4))]) (rest := []) X kX1_118 (c_X0_holderOf l E a st w ((port % 16) / 4) (by omega)) G 2 rfl rfl ⟨Nat.le_of_ble_eq_true rfl, Nat.le_of_ble_eq_true rfl⟩ ⟨Nat.le_refl _, Nat.le_refl _⟩ rfl hl.1 rfl (Nat.le_of_ble_eq_true rfl) dX1_choose_58 (fun H locs G => ?_)
          refine lv_bipush (v := (-6)) hx hb dX1_choose_61 (by decide) ?_
          refine lv_icmp_ne (tgt := 68) hx hb dX1_choose_63 (by decide) (fun c16 => ?_) (fun c16 => ?_)
          · skip
            refine lv_aload_n hx hb dX1_choose_68 rfl (lv_at hl 3 rfl) ?_
            refine lv_bipush (v := (-6)) hx hb dX1_choose_69 (by decide) ?_
            refine lv_iload_n hx hb dX1_choose_71 rfl (lv_at hl 5 rfl) ?_
            refine g_callV (As := [.int (-6), .int (nI port)]) (rest := []) X kX1_121 (c_X1_leastFitOfHolder l E a st w (-6) port (by omega)) G 0 rfl rfl ⟨Nat.le_of_ble_eq_true rfl, Nat.le_of_ble_eq_true rfl⟩ ⟨Nat.le_refl _, Nat.le_refl _⟩ rfl hl.1 rfl (Nat.le_of_ble_eq_true rfl) dX1_choose_72 (fun H locs G => ?_)
            refine o_split (fun c18 => ?_) (fun j17 c19 => ?_)
            · skip
              exact g_iret X hr G rfl (by simp [chooseC, oI, c1, c11, c13, c16, c18]) dX1_choose_75
            · skip
              have bj17 : j17 < 16 := by have := lfhF_lt c19; omega
              exact g_iret X hr G rfl (by simp [chooseC, oI, c1, c11, c13, c16, c19]) dX1_choose_75
          · skip
            refine lv_iload_n hx hb dX1_choose_66 rfl (lv_at hl 2 rfl) ?_
            exact g_iret X hr G rfl (by simp [chooseC, oI, c1, c11, c13, c16]) dX1_choose_67
        · skip
          exact absurd c15 (by decide)
      · skip
        have bj12 : j12 < 16 := by have := lfhF_lt c14; omega
        refine lv_istore (lv' := [(5, .int (nI j12)), (4, .int (nI ((port % 16) / 4))), (3, .int (nI (port % 16))), (0, .ref (a 0)), (1, .int h), (2, .int (nI port))]) hx hb dX1_choose_40 hl (by decide) rfl (fun ls hl => ?_)
        refine lv_iload hx hb dX1_choose_42 (lv_at hl 0 rfl) ?_
        refine lv_bipush (v := (-6)) hx hb dX1_choose_44 (by decide) ?_
        refine lv_icmp_eq (tgt := 52) hx hb dX1_choose_46 (by decide) (fun c20 => ?_) (fun c20 => ?_)
        · skip
          exact absurd c20 (nI_m6 (by omega))
        · skip
          refine lv_iload hx hb dX1_choose_49 (lv_at hl 0 rfl) ?_
          exact g_iret X hr G rfl (by simp [chooseC, oI, c1, c11, c14]) dX1_choose_51
    · skip
      refine lv_iload_n hx hb dX1_choose_32 rfl (lv_at hl 1 rfl) ?_
      exact g_iret X hr G rfl (by simp [chooseC, oI, c1, c11]) dX1_choose_33
set_option maxHeartbeats 4000000 in
set_option maxRecDepth 100000 in
theorem c_X1_makeBinding (l : Launch) (E : EE) (a : Nat → Nat) (st : St) (w : va_W) (host : Nat) (hhost : host < 4) (port : Nat) (hport : port < 32) (r : Nat) (hr : r < 5) (rp : Nat) (hrp : rp < 32) : Ct l yX1_makeBinding cX1_makeBinding 8 (some .int) 5 E [.ref (a 0), .int (nI host), .int (nI port), .int (nI r), .int (nI rp)] (wB E a st w) (oI (chooseC st (nI host) port)) (wB E a (makeC st host port r rp) w) := by
  refine Ct_mk RX1 rfl (by decide +kernel) (Nat.le_of_ble_eq_true rfl) ?_
  intro p e s m below meth c A ls X hr G hl
  have hl : lv_has ls 8 [(0, .ref (a 0)), (1, .int (nI host)), (2, .int (nI port)), (3, .int (nI r)), (4, .int (nI rp))] := hl
  obtain ⟨hx, hb, hml, hown, hts, hK, hA, hlocks⟩ := id X
  refine lv_aload_n hx hb dX1_makeBinding_0 rfl (lv_at hl 0 rfl) ?_
  refine lv_iload_n hx hb dX1_makeBinding_1 rfl (lv_at hl 1 rfl) ?_
  refine lv_iload_n hx hb dX1_makeBinding_2 rfl (lv_at hl 2 rfl) ?_
  refine g_callV (As := [.int (nI host), .int (nI port)]) (rest := []) X kX1_66 (c_X1_choose l E a st w (nI host) port (by omega)) G 0 rfl rfl ⟨Nat.le_of_ble_eq_true rfl, Nat.le_of_ble_eq_true rfl⟩ ⟨Nat.le_refl _, Nat.le_refl _⟩ rfl hl.1 rfl (Nat.le_of_ble_eq_true rfl) dX1_makeBinding_3 (fun H locs G => ?_)
  refine o_split (fun c2 => ?_) (fun j1 c3 => ?_)
  · skip
    refine lv_istore (lv' := [(5, .int (-6)), (0, .ref (a 0)), (1, .int (nI host)), (2, .int (nI port)), (3, .int (nI r)), (4, .int (nI rp))]) hx hb dX1_makeBinding_6 hl (by decide) rfl (fun ls hl => ?_)
    refine lv_iload hx hb dX1_makeBinding_8 (lv_at hl 0 rfl) ?_
    refine lv_bipush (v := (-6)) hx hb dX1_makeBinding_10 (by decide) ?_
    refine lv_icmp_ne (tgt := 18) hx hb dX1_makeBinding_12 (by decide) (fun c4 => ?_) (fun c4 => ?_)
    · skip
      exact absurd c4 (by decide)
    · skip
      refine lv_bipush (v := (-6)) hx hb dX1_makeBinding_15 (by decide) ?_
      exact g_iret X hr G (congrArg (fun z => wB E a z w) (by simp [makeC, oI, c2])) (by simp [makeC, oI, c2]) dX1_makeBinding_17
  · skip
    have bj1 : j1 < 16 := chooseC_lt c3
    refine lv_istore (lv' := [(5, .int (nI j1)), (0, .ref (a 0)), (1, .int (nI host)), (2, .int (nI port)), (3, .int (nI r)), (4, .int (nI rp))]) hx hb dX1_makeBinding_6 hl (by decide) rfl (fun ls hl => ?_)
    refine lv_iload hx hb dX1_makeBinding_8 (lv_at hl 0 rfl) ?_
    refine lv_bipush (v := (-6)) hx hb dX1_makeBinding_10 (by decide) ?_
    refine lv_icmp_ne (tgt := 18) hx hb dX1_makeBinding_12 (by decide) (fun c5 => ?_) (fun c5 => ?_)
    · skip
      refine lv_aload_n hx hb dX1_makeBinding_18 rfl (lv_at hl 1 rfl) ?_
      refine g_get X G fX1_18 0 rfl rfl dX1_makeBinding_19 ?_
      refine lv_iconst (v := 0) hx hb dX1_makeBinding_22 (by decide) ?_
      refine g_iald (j := 0) X G 1 rfl rfl (by omega) (by decide) dX1_makeBinding_23 ?_
      refine lv_iconst (v := 1) hx hb dX1_makeBinding_24 (by decide) ?_
      refine lv_icmp_lt (tgt := 32) hx hb dX1_makeBinding_25 (by decide) (fun c6 => ?_) (fun c6 => ?_)
      · skip
        refine lv_bipush (v := (-6)) hx hb dX1_makeBinding_32 (by decide) ?_
        refine lv_istore (lv' := [(6, .int (-6)), (5, .int (nI j1)), (0, .ref (a 0)), (1, .int (nI host)), (2, .int (nI port)), (3, .int (nI r)), (4, .int (nI rp))]) hx hb dX1_makeBinding_34 hl (by decide) rfl (fun ls hl => ?_)
        refine lv_aload_n hx hb dX1_makeBinding_36 rfl (lv_at hl 2 rfl) ?_
        refine g_get X G fX1_18 0 rfl rfl dX1_makeBinding_37 ?_
        refine lv_iconst (v := 0) hx hb dX1_makeBinding_40 (by decide) ?_
        refine g_iald (j := 0) X G 1 rfl rfl (by omega) (by decide) dX1_makeBinding_41 ?_
        refine lv_iconst (v := 2) hx hb dX1_makeBinding_42 (by decide) ?_
        refine lv_icmp_lt (tgt := 51) hx hb dX1_makeBinding_43 (by decide) (fun c7 => ?_) (fun c7 => ?_)
        · skip
          refine lv_bipush (v := (-6)) hx hb dX1_makeBinding_51 (by decide) ?_
          refine lv_istore (lv' := [(7, .int (-6)), (6, .int (-6)), (5, .int (nI j1)), (0, .ref (a 0)), (1, .int (nI host)), (2, .int (nI port)), (3, .int (nI r)), (4, .int (nI rp))]) hx hb dX1_makeBinding_53 hl (by decide) rfl (fun ls hl => ?_)
          refine lv_aload_n hx hb dX1_makeBinding_55 rfl (lv_at hl 3 rfl) ?_
          refine g_get X G fX1_26 0 rfl rfl dX1_makeBinding_56 ?_
          refine lv_iload hx hb dX1_makeBinding_59 (lv_at hl 2 rfl) ?_
          refine lv_iload_n hx hb dX1_makeBinding_61 rfl (lv_at hl 4 rfl) ?_
          refine lv_bipush (v := 32) hx hb dX1_makeBinding_62 (by decide) ?_
          refine n_imul host 32 rfl rfl hx hb dX1_makeBinding_64 ?_
          refine lv_iload_n hx hb dX1_makeBinding_65 rfl (lv_at hl 5 rfl) ?_
          refine n_iadd (host * 32) port rfl rfl hx hb dX1_makeBinding_66 ?_
          refine lv_iload hx hb dX1_makeBinding_67 (lv_at hl 1 rfl) ?_
          refine lv_iload hx hb dX1_makeBinding_69 (lv_at hl 0 rfl) ?_
          refine g_callVv (As := [.int (nI j1), .int (nI ((host * 32) + port)), .int (-6), .int (-6)]) (rest := []) X kX1_70 (c_X0_lend l E a st w j1 (by omega) (nI ((host * 32) + port)) (-6) (-6)) G 2 rfl rfl ⟨Nat.le_of_ble_eq_true rfl, Nat.le_of_ble_eq_true rfl⟩ ⟨Nat.le_refl _, Nat.le_refl _⟩ rfl hl.1 rfl (Nat.le_of_ble_eq_true rfl) dX1_makeBinding_71 (fun H locs G => ?_)
          refine lv_iload hx hb dX1_makeBinding_74 (lv_at hl 2 rfl) ?_
          exact g_iret X hr G (congrArg (fun z => wB E a z w) (by simp [makeC, oI, c3, c6, c7])) (by simp [makeC, oI, c3, c6, c7]) dX1_makeBinding_76
        · skip
          refine lv_iload hx hb dX1_makeBinding_46 (lv_at hl 6 rfl) ?_
          refine lv_goto (tgt := 53) hx hb dX1_makeBinding_48 (by decide) ?_
          refine lv_istore (lv' := [(7, .int (nI rp)), (6, .int (-6)), (5, .int (nI j1)), (0, .ref (a 0)), (1, .int (nI host)), (2, .int (nI port)), (3, .int (nI r)), (4, .int (nI rp))]) hx hb dX1_makeBinding_53 hl (by decide) rfl (fun ls hl => ?_)
          refine lv_aload_n hx hb dX1_makeBinding_55 rfl (lv_at hl 3 rfl) ?_
          refine g_get X G fX1_26 0 rfl rfl dX1_makeBinding_56 ?_
          refine lv_iload hx hb dX1_makeBinding_59 (lv_at hl 2 rfl) ?_
          refine lv_iload_n hx hb dX1_makeBinding_61 rfl (lv_at hl 4 rfl) ?_
          refine lv_bipush (v := 32) hx hb dX1_makeBinding_62 (by decide) ?_
          refine n_imul host 32 rfl rfl hx hb dX1_makeBinding_64 ?_
          refine lv_iload_n hx hb dX1_makeBinding_65 rfl (lv_at hl 5 rfl) ?_
          refine n_iadd (host * 32) port rfl rfl hx hb dX1_makeBinding_66 ?_
          refine lv_iload hx hb dX1_makeBinding_67 (lv_at hl 1 rfl) ?_
          refine lv_iload hx hb dX1_makeBinding_69 (lv_at hl 0 rfl) ?_
          refine g_callVv (As := [.int (nI j1), .int (nI ((host * 32) + port)), .int (-6), .int (nI rp)]) (rest := []) X kX1_70 (c_X0_lend l E a st w j1 (by omega) (nI ((host * 32) + port)) (-6) (nI rp)) G 2 rfl rfl ⟨Nat.le_of_ble_eq_true rfl, Nat.le_of_ble_eq_true rfl⟩ ⟨Nat.le_refl _, Nat.le_refl _⟩ rfl hl.1 rfl (Nat.le_of_ble_eq_true rfl) dX1_makeBinding_71 (fun H locs G => ?_)
          refine lv_iload hx hb dX1_makeBinding_74 (lv_at hl 2 rfl) ?_
          exact g_iret X hr G (congrArg (fun z => wB E a z w) (by simp [makeC, oI, c3, c6, c7])) (by simp [makeC, oI, c3, c6, c7]) dX1_makeBinding_76
      · skip
        refine lv_iload_n hx hb dX1_makeBinding_28 rfl (lv_at hl 4 rfl) ?_
        refine lv_goto (tgt := 34) hx hb dX1_makeBinding_29 (by decide) ?_
        refine lv_istore (lv' := [(6, .int (nI r)), (5, .int (nI j1)), (0, .ref (a 0)), (1, .int (nI host)), (2, .int (nI port)), (3, .int (nI r)), (4, .int (nI rp))]) hx hb dX1_makeBinding_34 hl (by decide) rfl (fun ls hl => ?_)
        refine lv_aload_n hx hb dX1_makeBinding_36 rfl (lv_at hl 2 rfl) ?_
        refine g_get X G fX1_18 0 rfl rfl dX1_makeBinding_37 ?_
        refine lv_iconst (v := 0) hx hb dX1_makeBinding_40 (by decide) ?_
        refine g_iald (j := 0) X G 1 rfl rfl (by omega) (by decide) dX1_makeBinding_41 ?_
        refine lv_iconst (v := 2) hx hb dX1_makeBinding_42 (by decide) ?_
        refine lv_icmp_lt (tgt := 51) hx hb dX1_makeBinding_43 (by decide) (fun c8 => ?_) (fun c8 => ?_)
        · skip
          refine lv_bipush (v := (-6)) hx hb dX1_makeBinding_51 (by decide) ?_
          refine lv_istore (lv' := [(7, .int (-6)), (6, .int (nI r)), (5, .int (nI j1)), (0, .ref (a 0)), (1, .int (nI host)), (2, .int (nI port)), (3, .int (nI r)), (4, .int (nI rp))]) hx hb dX1_makeBinding_53 hl (by decide) rfl (fun ls hl => ?_)
          refine lv_aload_n hx hb dX1_makeBinding_55 rfl (lv_at hl 3 rfl) ?_
          refine g_get X G fX1_26 0 rfl rfl dX1_makeBinding_56 ?_
          refine lv_iload hx hb dX1_makeBinding_59 (lv_at hl 2 rfl) ?_
          refine lv_iload_n hx hb dX1_makeBinding_61 rfl (lv_at hl 4 rfl) ?_
          refine lv_bipush (v := 32) hx hb dX1_makeBinding_62 (by decide) ?_
          refine n_imul host 32 rfl rfl hx hb dX1_makeBinding_64 ?_
          refine lv_iload_n hx hb dX1_makeBinding_65 rfl (lv_at hl 5 rfl) ?_
          refine n_iadd (host * 32) port rfl rfl hx hb dX1_makeBinding_66 ?_
          refine lv_iload hx hb dX1_makeBinding_67 (lv_at hl 1 rfl) ?_
          refine lv_iload hx hb dX1_makeBinding_69 (lv_at hl 0 rfl) ?_
          refine g_callVv (As := [.int (nI j1), .int (nI ((host * 32) + port)), .int (nI r), .int (-6)]) (rest := []) X kX1_70 (c_X0_lend l E a st w j1 (by omega) (nI ((host * 32) + port)) (nI r) (-6)) G 2 rfl rfl ⟨Nat.le_of_ble_eq_true rfl, Nat.le_of_ble_eq_true rfl⟩ ⟨Nat.le_refl _, Nat.le_refl _⟩ rfl hl.1 rfl (Nat.le_of_ble_eq_true rfl) dX1_makeBinding_71 (fun H locs G => ?_)
          refine lv_iload hx hb dX1_makeBinding_74 (lv_at hl 2 rfl) ?_
          exact g_iret X hr G (congrArg (fun z => wB E a z w) (by simp [makeC, oI, c3, c6, c8])) (by simp [makeC, oI, c3, c6, c8]) dX1_makeBinding_76
        · skip
          refine lv_iload hx hb dX1_makeBinding_46 (lv_at hl 6 rfl) ?_
          refine lv_goto (tgt := 53) hx hb dX1_makeBinding_48 (by decide) ?_
          refine lv_istore (lv' := [(7, .int (nI rp)), (6, .int (nI r)), (5, .int (nI j1)), (0, .ref (a 0)), (1, .int (nI host)), (2, .int (nI port)), (3, .int (nI r)), (4, .int (nI rp))]) hx hb dX1_makeBinding_53 hl (by decide) rfl (fun ls hl => ?_)
          refine lv_aload_n hx hb dX1_makeBinding_55 rfl (lv_at hl 3 rfl) ?_
          refine g_get X G fX1_26 0 rfl rfl dX1_makeBinding_56 ?_
          refine lv_iload hx hb dX1_makeBinding_59 (lv_at hl 2 rfl) ?_
          refine lv_iload_n hx hb dX1_makeBinding_61 rfl (lv_at hl 4 rfl) ?_
          refine lv_bipush (v := 32) hx hb dX1_makeBinding_62 (by decide) ?_
          refine n_imul host 32 rfl rfl hx hb dX1_makeBinding_64 ?_
          refine lv_iload_n hx hb dX1_makeBinding_65 rfl (lv_at hl 5 rfl) ?_
          refine n_iadd (host * 32) port rfl rfl hx hb dX1_makeBinding_66 ?_
          refine lv_iload hx hb dX1_makeBinding_67 (lv_at hl 1 rfl) ?_
          refine lv_iload hx hb dX1_makeBinding_69 (lv_at hl 0 rfl) ?_
          refine g_callVv (As := [.int (nI j1), .int (nI ((host * 32) + port)), .int (nI r), .int (nI rp)]) (rest := []) X kX1_70 (c_X0_lend l E a st w j1 (by omega) (nI ((host * 32) + port)) (nI r) (nI rp)) G 2 rfl rfl ⟨Nat.le_of_ble_eq_true rfl, Nat.le_of_ble_eq_true rfl⟩ ⟨Nat.le_refl _, Nat.le_refl _⟩ rfl hl.1 rfl (Nat.le_of_ble_eq_true rfl) dX1_makeBinding_71 (fun H locs G => ?_)
          refine lv_iload hx hb dX1_makeBinding_74 (lv_at hl 2 rfl) ?_
          exact g_iret X hr G (congrArg (fun z => wB E a z w) (by simp [makeC, oI, c3, c6, c8])) (by simp [makeC, oI, c3, c6, c8]) dX1_makeBinding_76
    · skip
      exact absurd c5 (nI_m6 (by omega))
set_option maxHeartbeats 4000000 in
set_option maxRecDepth 100000 in
theorem c_X1_goOut (l : Launch) (E : EE) (a : Nat → Nat) (st : St) (w : va_W) (host : Nat) (hhost : host < 4) (port : Nat) (hport : port < 32) (r : Nat) (hr : r < 5) (rp : Nat) (hrp : rp < 32) (f : Nat) (hf : f < 3) : Ct l yX1_goOut cX1_goOut 7 (some .int) 6 E [.ref (a 0), .int (nI host), .int (nI port), .int (nI r), .int (nI rp), .int (nI f)] (wB E a st w) (oN (goOutO st host port r rp)) (wB E a (goOutC st host port r rp f) w) := by
  refine Ct_mk RX1 rfl (by decide +kernel) (Nat.le_of_ble_eq_true rfl) ?_
  intro p e s m below meth c A ls X hr G hl
  have hl : lv_has ls 7 [(0, .ref (a 0)), (1, .int (nI host)), (2, .int (nI port)), (3, .int (nI r)), (4, .int (nI rp)), (5, .int (nI f))] := hl
  obtain ⟨hx, hb, hml, hown, hts, hK, hA, hlocks⟩ := id X
  refine lv_aload_n hx hb dX1_goOut_0 rfl (lv_at hl 0 rfl) ?_
  refine g_get X G fX1_26 0 rfl rfl dX1_goOut_1 ?_
  refine lv_iload_n hx hb dX1_goOut_4 rfl (lv_at hl 1 rfl) ?_
  refine lv_bipush (v := 32) hx hb dX1_goOut_5 (by decide) ?_
  refine n_imul host 32 rfl rfl hx hb dX1_goOut_7 ?_
  refine lv_iload_n hx hb dX1_goOut_8 rfl (lv_at hl 2 rfl) ?_
  refine n_iadd (host * 32) port rfl rfl hx hb dX1_goOut_9 ?_
  refine lv_iload_n hx hb dX1_goOut_10 rfl (lv_at hl 3 rfl) ?_
  refine lv_iload hx hb dX1_goOut_11 (lv_at hl 4 rfl) ?_
  refine g_callV (As := [.int (nI ((host * 32) + port)), .int (nI r), .int (nI rp)]) (rest := []) X kX1_48 (c_X0_seek l E a st w (nI ((host * 32) + port)) (nI r) (nI rp)) G 2 rfl rfl ⟨Nat.le_of_ble_eq_true rfl, Nat.le_of_ble_eq_true rfl⟩ ⟨Nat.le_refl _, Nat.le_refl _⟩ rfl hl.1 rfl (Nat.le_of_ble_eq_true rfl) dX1_goOut_13 (fun H locs G => ?_)
  refine o_split (fun c2 => ?_) (fun j1 c3 => ?_)
  · skip
    refine lv_istore (lv' := [(6, .int (-6)), (0, .ref (a 0)), (1, .int (nI host)), (2, .int (nI port)), (3, .int (nI r)), (4, .int (nI rp)), (5, .int (nI f))]) hx hb dX1_goOut_16 hl (by decide) rfl (fun ls hl => ?_)
    refine lv_iload hx hb dX1_goOut_18 (lv_at hl 0 rfl) ?_
    refine lv_bipush (v := (-6)) hx hb dX1_goOut_20 (by decide) ?_
    refine lv_icmp_ne (tgt := 36) hx hb dX1_goOut_22 (by decide) (fun c4 => ?_) (fun c4 => ?_)
    · skip
      exact absurd c4 (by decide)
    · skip
      refine lv_aload_n hx hb dX1_goOut_25 rfl (lv_at hl 1 rfl) ?_
      refine lv_iload_n hx hb dX1_goOut_26 rfl (lv_at hl 2 rfl) ?_
      refine lv_iload_n hx hb dX1_goOut_27 rfl (lv_at hl 3 rfl) ?_
      refine lv_iload_n hx hb dX1_goOut_28 rfl (lv_at hl 4 rfl) ?_
      refine lv_iload hx hb dX1_goOut_29 (lv_at hl 5 rfl) ?_
      refine g_callV (As := [.int (nI host), .int (nI port), .int (nI r), .int (nI rp)]) (rest := []) X kX1_52 (c_X1_makeBinding l E a st w host (by omega) port (by omega) r (by omega) rp (by omega)) G 0 rfl rfl ⟨Nat.le_of_ble_eq_true rfl, Nat.le_of_ble_eq_true rfl⟩ ⟨Nat.le_refl _, Nat.le_refl _⟩ rfl hl.1 rfl (Nat.le_of_ble_eq_true rfl) dX1_goOut_31 (fun H locs G => ?_)
      refine o_split (fun c6 => ?_) (fun j5 c7 => ?_)
      · skip
        refine lv_istore (lv' := [(6, .int (-6)), (0, .ref (a 0)), (1, .int (nI host)), (2, .int (nI port)), (3, .int (nI r)), (4, .int (nI rp)), (5, .int (nI f))]) hx hb dX1_goOut_34 hl (by decide) rfl (fun ls hl => ?_)
        refine lv_iload hx hb dX1_goOut_36 (lv_at hl 0 rfl) ?_
        refine lv_bipush (v := (-6)) hx hb dX1_goOut_38 (by decide) ?_
        refine lv_icmp_ne (tgt := 46) hx hb dX1_goOut_40 (by decide) (fun c8 => ?_) (fun c8 => ?_)
        · skip
          exact absurd c8 (by decide)
        · skip
          refine lv_bipush (v := (-5)) hx hb dX1_goOut_43 (by decide) ?_
          exact g_iret X hr G (congrArg (fun z => wB E a z w) (by simp [goOutO, goOutC, goFin, flagO, oN, c2, c6])) (by simp [goOutO, goOutC, goFin, flagO, oN, c2, c6]) dX1_goOut_45
      · skip
        have bj5 : j5 < 16 := chooseC_lt c7
        refine lv_istore (lv' := [(6, .int (nI j5)), (0, .ref (a 0)), (1, .int (nI host)), (2, .int (nI port)), (3, .int (nI r)), (4, .int (nI rp)), (5, .int (nI f))]) hx hb dX1_goOut_34 hl (by decide) rfl (fun ls hl => ?_)
        refine lv_iload hx hb dX1_goOut_36 (lv_at hl 0 rfl) ?_
        refine lv_bipush (v := (-6)) hx hb dX1_goOut_38 (by decide) ?_
        refine lv_icmp_ne (tgt := 46) hx hb dX1_goOut_40 (by decide) (fun c9 => ?_) (fun c9 => ?_)
        · skip
          refine lv_aload_n hx hb dX1_goOut_46 rfl (lv_at hl 1 rfl) ?_
          refine g_get X G fX1_26 0 rfl rfl dX1_goOut_47 ?_
          refine lv_iload hx hb dX1_goOut_50 (lv_at hl 0 rfl) ?_
          refine lv_iload_n hx hb dX1_goOut_52 rfl (lv_at hl 4 rfl) ?_
          refine lv_iload hx hb dX1_goOut_53 (lv_at hl 5 rfl) ?_
          refine g_callVv (As := [.int (nI j5), .int (nI r), .int (nI rp)]) (rest := []) X kX1_56 (c_X0_markSent l E a (makeC st host port r rp) w j5 (by omega) r (by omega) rp) G 2 rfl rfl ⟨Nat.le_of_ble_eq_true rfl, Nat.le_of_ble_eq_true rfl⟩ ⟨Nat.le_refl _, Nat.le_refl _⟩ rfl hl.1 rfl (Nat.le_of_ble_eq_true rfl) dX1_goOut_55 (fun H locs G => ?_)
          refine lv_aload_n hx hb dX1_goOut_58 rfl (lv_at hl 1 rfl) ?_
          refine g_get X G fX1_26 0 rfl rfl dX1_goOut_59 ?_
          refine g_get X G fX1_60 2 rfl rfl dX1_goOut_62 ?_
          refine lv_iload hx hb dX1_goOut_65 (lv_at hl 0 rfl) ?_
          refine lv_aload_n hx hb dX1_goOut_67 rfl (lv_at hl 1 rfl) ?_
          refine g_get X G fX1_37 0 rfl rfl dX1_goOut_68 ?_
          refine g_iast (j := j5) X G 6 rfl rfl (by omega) (by decide) dX1_goOut_71 (fun H locs G => ?_)
          have G : Gw E A s (wB E a (sU (markC (makeC st host port r rp) j5 r rp) 3 j5 ((markC (makeC st host port r rp) j5 r rp) 11 0)) w) H locs := G
          refine lv_iload hx hb dX1_goOut_72 (lv_at hl 6 rfl) ?_
          refine lv_iconst (v := 2) hx hb dX1_goOut_74 (by decide) ?_
          refine n_cmp_ne (tgt := 92) f 2 rfl rfl (by omega) (by omega) hx hb dX1_goOut_75 (by decide) (fun c10 => ?_) (fun c10 => ?_)
          · skip
            refine lv_iload hx hb dX1_goOut_92 (lv_at hl 6 rfl) ?_
            refine lv_iconst (v := 1) hx hb dX1_goOut_94 (by decide) ?_
            refine n_cmp_ne (tgt := 123) f 1 rfl rfl (by omega) (by omega) hx hb dX1_goOut_95 (by decide) (fun c11 => ?_) (fun c11 => ?_)
            · skip
              refine lv_iload hx hb dX1_goOut_123 (lv_at hl 0 rfl) ?_
              exact g_iret X hr G (congrArg (fun z => wB E a z w) (by simp [goOutO, goOutC, goFin, flagO, oN, c2, c7, c10, c11])) (by simp [goOutO, goOutC, goFin, flagO, oN, c2, c7, c10, c11]) dX1_goOut_125
            · skip
              refine lv_aload_n hx hb dX1_goOut_98 rfl (lv_at hl 1 rfl) ?_
              refine g_get X G fX1_26 0 rfl rfl dX1_goOut_99 ?_
              refine g_get X G fX1_63 2 rfl rfl dX1_goOut_102 ?_
              refine lv_iload hx hb dX1_goOut_105 (lv_at hl 0 rfl) ?_
              refine g_iald (j := j5) X G 5 rfl rfl (by omega) (by decide) dX1_goOut_107 ?_
              refine lv_iconst (v := 2) hx hb dX1_goOut_108 (by decide) ?_
              refine lv_icmp_ne (tgt := 123) hx hb dX1_goOut_109 (by decide) (fun c12 => ?_) (fun c12 => ?_)
              · skip
                refine lv_iload hx hb dX1_goOut_123 (lv_at hl 0 rfl) ?_
                exact g_iret X hr G (congrArg (fun z => wB E a z w) (by simp [goOutO, goOutC, goFin, flagO, oN, c2, c7, c10, c11, c12])) (by simp [goOutO, goOutC, goFin, flagO, oN, c2, c7, c10, c11, c12]) dX1_goOut_125
              · skip
                refine lv_aload_n hx hb dX1_goOut_112 rfl (lv_at hl 1 rfl) ?_
                refine g_get X G fX1_26 0 rfl rfl dX1_goOut_113 ?_
                refine g_get X G fX1_63 2 rfl rfl dX1_goOut_116 ?_
                refine lv_iload hx hb dX1_goOut_119 (lv_at hl 0 rfl) ?_
                refine lv_iconst (v := 0) hx hb dX1_goOut_121 (by decide) ?_
                refine g_iast (j := j5) X G 5 rfl rfl (by omega) (by decide) dX1_goOut_122 (fun H locs G => ?_)
                have G : Gw E A s (wB E a (sU (sU (markC (makeC st host port r rp) j5 r rp) 3 j5 ((markC (makeC st host port r rp) j5 r rp) 11 0)) 2 j5 0) w) H locs := G
                refine lv_iload hx hb dX1_goOut_123 (lv_at hl 0 rfl) ?_
                exact g_iret X hr G (congrArg (fun z => wB E a z w) (by simp [goOutO, goOutC, goFin, flagO, oN, c2, c7, c10, c11, c12])) (by simp [goOutO, goOutC, goFin, flagO, oN, c2, c7, c10, c11, c12]) dX1_goOut_125
          · skip
            refine lv_aload_n hx hb dX1_goOut_78 rfl (lv_at hl 1 rfl) ?_
            refine g_get X G fX1_26 0 rfl rfl dX1_goOut_79 ?_
            refine g_get X G fX1_63 2 rfl rfl dX1_goOut_82 ?_
            refine lv_iload hx hb dX1_goOut_85 (lv_at hl 0 rfl) ?_
            refine lv_iconst (v := 2) hx hb dX1_goOut_87 (by decide) ?_
            refine g_iast (j := j5) X G 5 rfl rfl (by omega) (by decide) dX1_goOut_88 (fun H locs G => ?_)
            have G : Gw E A s (wB E a (sU (sU (markC (makeC st host port r rp) j5 r rp) 3 j5 ((markC (makeC st host port r rp) j5 r rp) 11 0)) 2 j5 2) w) H locs := G
            refine lv_goto (tgt := 123) hx hb dX1_goOut_89 (by decide) ?_
            refine lv_iload hx hb dX1_goOut_123 (lv_at hl 0 rfl) ?_
            exact g_iret X hr G (congrArg (fun z => wB E a z w) (by simp [goOutO, goOutC, goFin, flagO, oN, c2, c7, c10])) (by simp [goOutO, goOutC, goFin, flagO, oN, c2, c7, c10]) dX1_goOut_125
        · skip
          exact absurd c9 (nI_m6 (by omega))
  · skip
    have bj1 : j1 < 16 := seekO_lt c3
    refine lv_istore (lv' := [(6, .int (nI j1)), (0, .ref (a 0)), (1, .int (nI host)), (2, .int (nI port)), (3, .int (nI r)), (4, .int (nI rp)), (5, .int (nI f))]) hx hb dX1_goOut_16 hl (by decide) rfl (fun ls hl => ?_)
    refine lv_iload hx hb dX1_goOut_18 (lv_at hl 0 rfl) ?_
    refine lv_bipush (v := (-6)) hx hb dX1_goOut_20 (by decide) ?_
    refine lv_icmp_ne (tgt := 36) hx hb dX1_goOut_22 (by decide) (fun c13 => ?_) (fun c13 => ?_)
    · skip
      refine lv_iload hx hb dX1_goOut_36 (lv_at hl 0 rfl) ?_
      refine lv_bipush (v := (-6)) hx hb dX1_goOut_38 (by decide) ?_
      refine lv_icmp_ne (tgt := 46) hx hb dX1_goOut_40 (by decide) (fun c14 => ?_) (fun c14 => ?_)
      · skip
        refine lv_aload_n hx hb dX1_goOut_46 rfl (lv_at hl 1 rfl) ?_
        refine g_get X G fX1_26 0 rfl rfl dX1_goOut_47 ?_
        refine lv_iload hx hb dX1_goOut_50 (lv_at hl 0 rfl) ?_
        refine lv_iload_n hx hb dX1_goOut_52 rfl (lv_at hl 4 rfl) ?_
        refine lv_iload hx hb dX1_goOut_53 (lv_at hl 5 rfl) ?_
        refine g_callVv (As := [.int (nI j1), .int (nI r), .int (nI rp)]) (rest := []) X kX1_56 (c_X0_markSent l E a st w j1 (by omega) r (by omega) rp) G 2 rfl rfl ⟨Nat.le_of_ble_eq_true rfl, Nat.le_of_ble_eq_true rfl⟩ ⟨Nat.le_refl _, Nat.le_refl _⟩ rfl hl.1 rfl (Nat.le_of_ble_eq_true rfl) dX1_goOut_55 (fun H locs G => ?_)
        refine lv_aload_n hx hb dX1_goOut_58 rfl (lv_at hl 1 rfl) ?_
        refine g_get X G fX1_26 0 rfl rfl dX1_goOut_59 ?_
        refine g_get X G fX1_60 2 rfl rfl dX1_goOut_62 ?_
        refine lv_iload hx hb dX1_goOut_65 (lv_at hl 0 rfl) ?_
        refine lv_aload_n hx hb dX1_goOut_67 rfl (lv_at hl 1 rfl) ?_
        refine g_get X G fX1_37 0 rfl rfl dX1_goOut_68 ?_
        refine g_iast (j := j1) X G 6 rfl rfl (by omega) (by decide) dX1_goOut_71 (fun H locs G => ?_)
        have G : Gw E A s (wB E a (sU (markC st j1 r rp) 3 j1 ((markC st j1 r rp) 11 0)) w) H locs := G
        refine lv_iload hx hb dX1_goOut_72 (lv_at hl 6 rfl) ?_
        refine lv_iconst (v := 2) hx hb dX1_goOut_74 (by decide) ?_
        refine n_cmp_ne (tgt := 92) f 2 rfl rfl (by omega) (by omega) hx hb dX1_goOut_75 (by decide) (fun c15 => ?_) (fun c15 => ?_)
        · skip
          refine lv_iload hx hb dX1_goOut_92 (lv_at hl 6 rfl) ?_
          refine lv_iconst (v := 1) hx hb dX1_goOut_94 (by decide) ?_
          refine n_cmp_ne (tgt := 123) f 1 rfl rfl (by omega) (by omega) hx hb dX1_goOut_95 (by decide) (fun c16 => ?_) (fun c16 => ?_)
          · skip
            refine lv_iload hx hb dX1_goOut_123 (lv_at hl 0 rfl) ?_
            exact g_iret X hr G (congrArg (fun z => wB E a z w) (by simp [goOutO, goOutC, goFin, flagO, oN, c3, c15, c16])) (by simp [goOutO, goOutC, goFin, flagO, oN, c3, c15, c16]) dX1_goOut_125
          · skip
            refine lv_aload_n hx hb dX1_goOut_98 rfl (lv_at hl 1 rfl) ?_
            refine g_get X G fX1_26 0 rfl rfl dX1_goOut_99 ?_
            refine g_get X G fX1_63 2 rfl rfl dX1_goOut_102 ?_
            refine lv_iload hx hb dX1_goOut_105 (lv_at hl 0 rfl) ?_
            refine g_iald (j := j1) X G 5 rfl rfl (by omega) (by decide) dX1_goOut_107 ?_
            refine lv_iconst (v := 2) hx hb dX1_goOut_108 (by decide) ?_
            refine lv_icmp_ne (tgt := 123) hx hb dX1_goOut_109 (by decide) (fun c17 => ?_) (fun c17 => ?_)
            · skip
              refine lv_iload hx hb dX1_goOut_123 (lv_at hl 0 rfl) ?_
              exact g_iret X hr G (congrArg (fun z => wB E a z w) (by simp [goOutO, goOutC, goFin, flagO, oN, c3, c15, c16, c17])) (by simp [goOutO, goOutC, goFin, flagO, oN, c3, c15, c16, c17]) dX1_goOut_125
            · skip
              refine lv_aload_n hx hb dX1_goOut_112 rfl (lv_at hl 1 rfl) ?_
              refine g_get X G fX1_26 0 rfl rfl dX1_goOut_113 ?_
              refine g_get X G fX1_63 2 rfl rfl dX1_goOut_116 ?_
              refine lv_iload hx hb dX1_goOut_119 (lv_at hl 0 rfl) ?_
              refine lv_iconst (v := 0) hx hb dX1_goOut_121 (by decide) ?_
              refine g_iast (j := j1) X G 5 rfl rfl (by omega) (by decide) dX1_goOut_122 (fun H locs G => ?_)
              have G : Gw E A s (wB E a (sU (sU (markC st j1 r rp) 3 j1 ((markC st j1 r rp) 11 0)) 2 j1 0) w) H locs := G
              refine lv_iload hx hb dX1_goOut_123 (lv_at hl 0 rfl) ?_
              exact g_iret X hr G (congrArg (fun z => wB E a z w) (by simp [goOutO, goOutC, goFin, flagO, oN, c3, c15, c16, c17])) (by simp [goOutO, goOutC, goFin, flagO, oN, c3, c15, c16, c17]) dX1_goOut_125
        · skip
          refine lv_aload_n hx hb dX1_goOut_78 rfl (lv_at hl 1 rfl) ?_
          refine g_get X G fX1_26 0 rfl rfl dX1_goOut_79 ?_
          refine g_get X G fX1_63 2 rfl rfl dX1_goOut_82 ?_
          refine lv_iload hx hb dX1_goOut_85 (lv_at hl 0 rfl) ?_
          refine lv_iconst (v := 2) hx hb dX1_goOut_87 (by decide) ?_
          refine g_iast (j := j1) X G 5 rfl rfl (by omega) (by decide) dX1_goOut_88 (fun H locs G => ?_)
          have G : Gw E A s (wB E a (sU (sU (markC st j1 r rp) 3 j1 ((markC st j1 r rp) 11 0)) 2 j1 2) w) H locs := G
          refine lv_goto (tgt := 123) hx hb dX1_goOut_89 (by decide) ?_
          refine lv_iload hx hb dX1_goOut_123 (lv_at hl 0 rfl) ?_
          exact g_iret X hr G (congrArg (fun z => wB E a z w) (by simp [goOutO, goOutC, goFin, flagO, oN, c3, c15])) (by simp [goOutO, goOutC, goFin, flagO, oN, c3, c15]) dX1_goOut_125
      · skip
        exact absurd c14 (nI_m6 (by omega))
    · skip
      exact absurd c13 (nI_m6 (by omega))
set_option maxHeartbeats 4000000 in
set_option maxRecDepth 100000 in
theorem c_X1_reasonAgainst (l : Launch) (E : EE) (a : Nat → Nat) (st : St) (w : va_W) (r : Nat) (hr : r < 5) (rp : Nat) (hrp : rp < 32) (o : Nat) (ho : o < 16) : Ct l yX1_reasonAgainst cX1_reasonAgainst 4 (some .int) 1 E [.ref (a 0), .int (nI r), .int (nI rp), .int (nI o)] (wB E a st w) (nI (reasonC st r rp o)) (wB E a st w) := by
  refine Ct_mk RX1 rfl (by decide +kernel) (Nat.le_of_ble_eq_true rfl) ?_
  intro p e s m below meth c A ls X hr G hl
  have hl : lv_has ls 4 [(0, .ref (a 0)), (1, .int (nI r)), (2, .int (nI rp)), (3, .int (nI o))] := hl
  obtain ⟨hx, hb, hml, hown, hts, hK, hA, hlocks⟩ := id X
  refine lv_aload_n hx hb dX1_reasonAgainst_0 rfl (lv_at hl 0 rfl) ?_
  refine g_get X G fX1_26 0 rfl rfl dX1_reasonAgainst_1 ?_
  refine lv_iload_n hx hb dX1_reasonAgainst_4 rfl (lv_at hl 3 rfl) ?_
  refine g_callV (As := [.int (nI o)]) (rest := []) X kX1_80 (c_X0_isLent l E a st w o (by omega)) G 2 rfl rfl ⟨Nat.le_of_ble_eq_true rfl, Nat.le_of_ble_eq_true rfl⟩ ⟨Nat.le_refl _, Nat.le_refl _⟩ rfl hl.1 rfl (Nat.le_of_ble_eq_true rfl) dX1_reasonAgainst_5 (fun H locs G => ?_)
  refine b_ifne (tgt := 13) hx hb dX1_reasonAgainst_8 (by decide) (fun c1 => ?_) (fun c1 => ?_)
  · skip
    refine lv_aload_n hx hb dX1_reasonAgainst_13 rfl (lv_at hl 0 rfl) ?_
    refine g_get X G fX1_18 0 rfl rfl dX1_reasonAgainst_14 ?_
    refine lv_iconst (v := 1) hx hb dX1_reasonAgainst_17 (by decide) ?_
    refine g_iald (j := 1) X G 1 rfl rfl (by omega) (by decide) dX1_reasonAgainst_18 ?_
    refine lv_iconst (v := 1) hx hb dX1_reasonAgainst_19 (by decide) ?_
    refine lv_icmp_ne (tgt := 37) hx hb dX1_reasonAgainst_20 (by decide) (fun c2 => ?_) (fun c2 => ?_)
    · skip
      refine lv_aload_n hx hb dX1_reasonAgainst_37 rfl (lv_at hl 0 rfl) ?_
      refine g_get X G fX1_18 0 rfl rfl dX1_reasonAgainst_38 ?_
      refine lv_iconst (v := 1) hx hb dX1_reasonAgainst_41 (by decide) ?_
      refine g_iald (j := 1) X G 1 rfl rfl (by omega) (by decide) dX1_reasonAgainst_42 ?_
      refine lv_iconst (v := 2) hx hb dX1_reasonAgainst_43 (by decide) ?_
      refine lv_icmp_ne (tgt := 62) hx hb dX1_reasonAgainst_44 (by decide) (fun c3 => ?_) (fun c3 => ?_)
      · skip
        refine lv_iconst (v := 0) hx hb dX1_reasonAgainst_62 (by decide) ?_
        exact g_iret X hr G rfl (by first | (simp [reasonC, nI, c1, c2, c3]; done) | (clear G hl X hr hK hts; simp_all; done)) dX1_reasonAgainst_63
      · skip
        refine lv_aload_n hx hb dX1_reasonAgainst_47 rfl (lv_at hl 0 rfl) ?_
        refine g_get X G fX1_26 0 rfl rfl dX1_reasonAgainst_48 ?_
        refine lv_iload_n hx hb dX1_reasonAgainst_51 rfl (lv_at hl 3 rfl) ?_
        refine lv_iload_n hx hb dX1_reasonAgainst_52 rfl (lv_at hl 1 rfl) ?_
        refine lv_iload_n hx hb dX1_reasonAgainst_53 rfl (lv_at hl 2 rfl) ?_
        refine g_callV (As := [.int (nI o), .int (nI r), .int (nI rp)]) (rest := []) X kX1_88 (c_X0_isSent l E a st w o (by omega) r (by omega) rp) G 2 rfl rfl ⟨Nat.le_of_ble_eq_true rfl, Nat.le_of_ble_eq_true rfl⟩ ⟨Nat.le_refl _, Nat.le_refl _⟩ rfl hl.1 rfl (Nat.le_of_ble_eq_true rfl) dX1_reasonAgainst_54 (fun H locs G => ?_)
        refine b_ifne (tgt := 62) hx hb dX1_reasonAgainst_57 (by decide) (fun c4 => ?_) (fun c4 => ?_)
        · skip
          refine lv_iconst (v := 0) hx hb dX1_reasonAgainst_62 (by decide) ?_
          exact g_iret X hr G rfl (by first | (simp [reasonC, nI, c1, c2, c3, c4]; done) | (clear G hl X hr hK hts; simp_all; done)) dX1_reasonAgainst_63
        · skip
          refine lv_iconst (v := 2) hx hb dX1_reasonAgainst_60 (by decide) ?_
          exact g_iret X hr G rfl (by first | (simp [reasonC, nI, c1, c2, c3, c4]; done) | (clear G hl X hr hK hts; simp_all; done)) dX1_reasonAgainst_61
    · skip
      refine lv_aload_n hx hb dX1_reasonAgainst_23 rfl (lv_at hl 0 rfl) ?_
      refine g_get X G fX1_26 0 rfl rfl dX1_reasonAgainst_24 ?_
      refine lv_iload_n hx hb dX1_reasonAgainst_27 rfl (lv_at hl 3 rfl) ?_
      refine lv_iload_n hx hb dX1_reasonAgainst_28 rfl (lv_at hl 1 rfl) ?_
      refine g_callV (As := [.int (nI o), .int (nI r)]) (rest := []) X kX1_84 (c_X0_isAnySent l E a st w o (by omega) r (by omega)) G 2 rfl rfl ⟨Nat.le_of_ble_eq_true rfl, Nat.le_of_ble_eq_true rfl⟩ ⟨Nat.le_refl _, Nat.le_refl _⟩ rfl hl.1 rfl (Nat.le_of_ble_eq_true rfl) dX1_reasonAgainst_29 (fun H locs G => ?_)
      refine b_ifne (tgt := 37) hx hb dX1_reasonAgainst_32 (by decide) (fun c5 => ?_) (fun c5 => ?_)
      · skip
        refine lv_aload_n hx hb dX1_reasonAgainst_37 rfl (lv_at hl 0 rfl) ?_
        refine g_get X G fX1_18 0 rfl rfl dX1_reasonAgainst_38 ?_
        refine lv_iconst (v := 1) hx hb dX1_reasonAgainst_41 (by decide) ?_
        refine g_iald (j := 1) X G 1 rfl rfl (by omega) (by decide) dX1_reasonAgainst_42 ?_
        refine lv_iconst (v := 2) hx hb dX1_reasonAgainst_43 (by decide) ?_
        refine lv_icmp_ne (tgt := 62) hx hb dX1_reasonAgainst_44 (by decide) (fun c6 => ?_) (fun c6 => ?_)
        · skip
          refine lv_iconst (v := 0) hx hb dX1_reasonAgainst_62 (by decide) ?_
          exact g_iret X hr G rfl (by first | (simp [reasonC, nI, c1, c2, c5, c6]; done) | (clear G hl X hr hK hts; simp_all; done)) dX1_reasonAgainst_63
        · skip
          refine lv_aload_n hx hb dX1_reasonAgainst_47 rfl (lv_at hl 0 rfl) ?_
          refine g_get X G fX1_26 0 rfl rfl dX1_reasonAgainst_48 ?_
          refine lv_iload_n hx hb dX1_reasonAgainst_51 rfl (lv_at hl 3 rfl) ?_
          refine lv_iload_n hx hb dX1_reasonAgainst_52 rfl (lv_at hl 1 rfl) ?_
          refine lv_iload_n hx hb dX1_reasonAgainst_53 rfl (lv_at hl 2 rfl) ?_
          refine g_callV (As := [.int (nI o), .int (nI r), .int (nI rp)]) (rest := []) X kX1_88 (c_X0_isSent l E a st w o (by omega) r (by omega) rp) G 2 rfl rfl ⟨Nat.le_of_ble_eq_true rfl, Nat.le_of_ble_eq_true rfl⟩ ⟨Nat.le_refl _, Nat.le_refl _⟩ rfl hl.1 rfl (Nat.le_of_ble_eq_true rfl) dX1_reasonAgainst_54 (fun H locs G => ?_)
          refine b_ifne (tgt := 62) hx hb dX1_reasonAgainst_57 (by decide) (fun c7 => ?_) (fun c7 => ?_)
          · skip
            refine lv_iconst (v := 0) hx hb dX1_reasonAgainst_62 (by decide) ?_
            exact g_iret X hr G rfl (by first | (simp [reasonC, nI, c1, c2, c5, c6, c7]; done) | (clear G hl X hr hK hts; simp_all; done)) dX1_reasonAgainst_63
          · skip
            refine lv_iconst (v := 2) hx hb dX1_reasonAgainst_60 (by decide) ?_
            exact g_iret X hr G rfl (by first | (simp [reasonC, nI, c1, c2, c5, c6, c7]; done) | (clear G hl X hr hK hts; simp_all; done)) dX1_reasonAgainst_61
      · skip
        refine lv_iconst (v := 2) hx hb dX1_reasonAgainst_35 (by decide) ?_
        exact g_iret X hr G rfl (by first | (simp [reasonC, nI, c1, c2, c5]; done) | (clear G hl X hr hK hts; simp_all; done)) dX1_reasonAgainst_36
  · skip
    refine lv_iconst (v := 1) hx hb dX1_reasonAgainst_11 (by decide) ?_
    exact g_iret X hr G rfl (by first | (simp [reasonC, nI, c1]; done) | (clear G hl X hr hK hts; simp_all; done)) dX1_reasonAgainst_12
set_option maxHeartbeats 4000000 in
set_option maxRecDepth 100000 in
theorem c_X1_comeIn (l : Launch) (E : EE) (a : Nat → Nat) (st : St) (w : va_W) (r : Nat) (hr : r < 5) (rp : Nat) (hrp : rp < 32) (o : Nat) (ho : o < 16) (f : Nat) (hf : f < 3) : Ct l yX1_comeIn cX1_comeIn 5 (some .int) 2 E [.ref (a 0), .int (nI r), .int (nI rp), .int (nI o), .int (nI f)] (wB E a st w) (comeInR st r rp o f) (wB E a (comeInC st r rp o f) w) := by
  refine Ct_mk RX1 rfl (by decide +kernel) (Nat.le_of_ble_eq_true rfl) ?_
  intro p e s m below meth c A ls X hr G hl
  have hl : lv_has ls 5 [(0, .ref (a 0)), (1, .int (nI r)), (2, .int (nI rp)), (3, .int (nI o)), (4, .int (nI f))] := hl
  obtain ⟨hx, hb, hml, hown, hts, hK, hA, hlocks⟩ := id X
  refine lv_aload_n hx hb dX1_comeIn_0 rfl (lv_at hl 0 rfl) ?_
  refine lv_iload_n hx hb dX1_comeIn_1 rfl (lv_at hl 1 rfl) ?_
  refine lv_iload_n hx hb dX1_comeIn_2 rfl (lv_at hl 2 rfl) ?_
  refine lv_iload_n hx hb dX1_comeIn_3 rfl (lv_at hl 3 rfl) ?_
  refine g_callV (As := [.int (nI r), .int (nI rp), .int (nI o)]) (rest := []) X kX1_74 (c_X1_reasonAgainst l E a st w r (by omega) rp (by omega) o (by omega)) G 0 rfl rfl ⟨Nat.le_of_ble_eq_true rfl, Nat.le_of_ble_eq_true rfl⟩ ⟨Nat.le_refl _, Nat.le_refl _⟩ rfl hl.1 rfl (Nat.le_of_ble_eq_true rfl) dX1_comeIn_4 (fun H locs G => ?_)
  have b1 : (reasonC st r rp o) ≤ 2 := reasonC_le _ _ _ _
  refine n_if_eq (tgt := 13) (reasonC st r rp o) rfl (by omega) hx hb dX1_comeIn_7 (by decide) (fun c2 => ?_) (fun c2 => ?_)
  · skip
    refine lv_aload_n hx hb dX1_comeIn_13 rfl (lv_at hl 0 rfl) ?_
    refine g_get X G fX1_26 0 rfl rfl dX1_comeIn_14 ?_
    refine g_get X G fX1_60 2 rfl rfl dX1_comeIn_17 ?_
    refine lv_iload_n hx hb dX1_comeIn_20 rfl (lv_at hl 3 rfl) ?_
    refine lv_aload_n hx hb dX1_comeIn_21 rfl (lv_at hl 0 rfl) ?_
    refine g_get X G fX1_37 0 rfl rfl dX1_comeIn_22 ?_
    refine g_iast (j := o) X G 6 rfl rfl (by omega) (by decide) dX1_comeIn_25 (fun H locs G => ?_)
    have G : Gw E A s (wB E a (sU st 3 o (st 11 0)) w) H locs := G
    refine lv_iload hx hb dX1_comeIn_26 (lv_at hl 4 rfl) ?_
    refine lv_iconst (v := 2) hx hb dX1_comeIn_28 (by decide) ?_
    refine n_cmp_ne (tgt := 45) f 2 rfl rfl (by omega) (by omega) hx hb dX1_comeIn_29 (by decide) (fun c3 => ?_) (fun c3 => ?_)
    · skip
      refine lv_aload_n hx hb dX1_comeIn_45 rfl (lv_at hl 0 rfl) ?_
      refine g_get X G fX1_26 0 rfl rfl dX1_comeIn_46 ?_
      refine g_get X G fX1_63 2 rfl rfl dX1_comeIn_49 ?_
      refine lv_iload_n hx hb dX1_comeIn_52 rfl (lv_at hl 3 rfl) ?_
      refine g_iald (j := o) X G 5 rfl rfl (by omega) (by decide) dX1_comeIn_53 ?_
      refine lv_if_ne (tgt := 67) hx hb dX1_comeIn_54 (by decide) (fun c4 => ?_) (fun c4 => ?_)
      · skip
        refine lv_aload_n hx hb dX1_comeIn_67 rfl (lv_at hl 0 rfl) ?_
        refine g_get X G fX1_26 0 rfl rfl dX1_comeIn_68 ?_
        refine g_get X G fX1_77 2 rfl rfl dX1_comeIn_71 ?_
        refine lv_iload_n hx hb dX1_comeIn_74 rfl (lv_at hl 3 rfl) ?_
        refine g_iald (j := o) X G 4 rfl rfl (by omega) (by decide) dX1_comeIn_75 ?_
        exact g_iret X hr G (congrArg (fun z => wB E a z w) (by simp [comeInR, comeInC, flagI, c2, c3, c4])) (by simp [comeInR, comeInC, flagI, c2, c3, c4]) dX1_comeIn_76
      · skip
        refine lv_aload_n hx hb dX1_comeIn_57 rfl (lv_at hl 0 rfl) ?_
        refine g_get X G fX1_26 0 rfl rfl dX1_comeIn_58 ?_
        refine g_get X G fX1_63 2 rfl rfl dX1_comeIn_61 ?_
        refine lv_iload_n hx hb dX1_comeIn_64 rfl (lv_at hl 3 rfl) ?_
        refine lv_iconst (v := 1) hx hb dX1_comeIn_65 (by decide) ?_
        refine g_iast (j := o) X G 5 rfl rfl (by omega) (by decide) dX1_comeIn_66 (fun H locs G => ?_)
        have G : Gw E A s (wB E a (sU (sU st 3 o (st 11 0)) 2 o 1) w) H locs := G
        refine lv_aload_n hx hb dX1_comeIn_67 rfl (lv_at hl 0 rfl) ?_
        refine g_get X G fX1_26 0 rfl rfl dX1_comeIn_68 ?_
        refine g_get X G fX1_77 2 rfl rfl dX1_comeIn_71 ?_
        refine lv_iload_n hx hb dX1_comeIn_74 rfl (lv_at hl 3 rfl) ?_
        refine g_iald (j := o) X G 4 rfl rfl (by omega) (by decide) dX1_comeIn_75 ?_
        exact g_iret X hr G (congrArg (fun z => wB E a z w) (by simp [comeInR, comeInC, flagI, c2, c3, c4])) (by simp [comeInR, comeInC, flagI, c2, c3, c4]) dX1_comeIn_76
    · skip
      refine lv_aload_n hx hb dX1_comeIn_32 rfl (lv_at hl 0 rfl) ?_
      refine g_get X G fX1_26 0 rfl rfl dX1_comeIn_33 ?_
      refine g_get X G fX1_63 2 rfl rfl dX1_comeIn_36 ?_
      refine lv_iload_n hx hb dX1_comeIn_39 rfl (lv_at hl 3 rfl) ?_
      refine lv_iconst (v := 2) hx hb dX1_comeIn_40 (by decide) ?_
      refine g_iast (j := o) X G 5 rfl rfl (by omega) (by decide) dX1_comeIn_41 (fun H locs G => ?_)
      have G : Gw E A s (wB E a (sU (sU st 3 o (st 11 0)) 2 o 2) w) H locs := G
      refine lv_goto (tgt := 67) hx hb dX1_comeIn_42 (by decide) ?_
      refine lv_aload_n hx hb dX1_comeIn_67 rfl (lv_at hl 0 rfl) ?_
      refine g_get X G fX1_26 0 rfl rfl dX1_comeIn_68 ?_
      refine g_get X G fX1_77 2 rfl rfl dX1_comeIn_71 ?_
      refine lv_iload_n hx hb dX1_comeIn_74 rfl (lv_at hl 3 rfl) ?_
      refine g_iald (j := o) X G 4 rfl rfl (by omega) (by decide) dX1_comeIn_75 ?_
      exact g_iret X hr G (congrArg (fun z => wB E a z w) (by simp [comeInR, comeInC, flagI, c2, c3])) (by simp [comeInR, comeInC, flagI, c2, c3]) dX1_comeIn_76
  · skip
    refine lv_bipush (v := (-6)) hx hb dX1_comeIn_10 (by decide) ?_
    exact g_iret X hr G (congrArg (fun z => wB E a z w) (by simp [comeInR, comeInC, flagI, c2])) (by simp [comeInR, comeInC, flagI, c2]) dX1_comeIn_12
set_option maxHeartbeats 4000000 in
set_option maxRecDepth 100000 in
theorem c_X1_takeFirstPart (l : Launch) (E : EE) (a : Nat → Nat) (st : St) (w : va_W) (k : Nat) (hk : k < 32) (r : Nat) (hr : r < 5) (rp : Nat) (hrp : rp < 32) (o : Nat) (ho : o < 16) : Ct l yX1_takeFirstPart cX1_takeFirstPart 7 (some .int) 3 E [.ref (a 0), .int (nI k), .int (nI r), .int (nI rp), .int (nI o)] (wB E a st w) ((tfpC st k r rp o).1) (wB E a ((tfpC st k r rp o).2) w) := by
  refine Ct_mk RX1 rfl (by decide +kernel) (Nat.le_of_ble_eq_true rfl) ?_
  intro p e s m below meth c A ls X hr G hl
  have hl : lv_has ls 7 [(0, .ref (a 0)), (1, .int (nI k)), (2, .int (nI r)), (3, .int (nI rp)), (4, .int (nI o))] := hl
  obtain ⟨hx, hb, hml, hown, hts, hK, hA, hlocks⟩ := id X
  refine lv_aload_n hx hb dX1_takeFirstPart_0 rfl (lv_at hl 0 rfl) ?_
  refine lv_iload_n hx hb dX1_takeFirstPart_1 rfl (lv_at hl 2 rfl) ?_
  refine lv_iload_n hx hb dX1_takeFirstPart_2 rfl (lv_at hl 3 rfl) ?_
  refine lv_iload hx hb dX1_takeFirstPart_3 (lv_at hl 4 rfl) ?_
  refine lv_iconst (v := 0) hx hb dX1_takeFirstPart_5 (by decide) ?_
  refine g_callV (As := [.int (nI r), .int (nI rp), .int (nI o), .int 0]) (rest := []) X kX1_92 (c_X1_comeIn l E a st w r (by omega) rp (by omega) o (by omega) 0 (by omega)) G 0 rfl rfl ⟨Nat.le_of_ble_eq_true rfl, Nat.le_of_ble_eq_true rfl⟩ ⟨Nat.le_refl _, Nat.le_refl _⟩ rfl hl.1 rfl (Nat.le_of_ble_eq_true rfl) dX1_takeFirstPart_6 (fun H locs G => ?_)
  refine lv_bipush (v := (-6)) hx hb dX1_takeFirstPart_9 (by decide) ?_
  refine lv_icmp_eq (tgt := 18) hx hb dX1_takeFirstPart_11 (by decide) (fun c1 => ?_) (fun c1 => ?_)
  · skip
    refine lv_iconst (v := 0) hx hb dX1_takeFirstPart_18 (by decide) ?_
    refine lv_istore (lv' := [(5, .int 0), (0, .ref (a 0)), (1, .int (nI k)), (2, .int (nI r)), (3, .int (nI rp)), (4, .int (nI o))]) hx hb dX1_takeFirstPart_19 hl (by decide) rfl (fun ls hl => ?_)
    refine lv_aload_n hx hb dX1_takeFirstPart_21 rfl (lv_at hl 1 rfl) ?_
    refine g_get X G fX1_33 0 rfl rfl dX1_takeFirstPart_22 ?_
    refine lv_iload_n hx hb dX1_takeFirstPart_25 rfl (lv_at hl 2 rfl) ?_
    refine g_callV (As := [.int (nI k)]) (rest := []) X kX1_95 (c_X2_releaseHeld l E a (comeInC st r rp o 0) w (nI k)) G 3 rfl rfl ⟨Nat.le_of_ble_eq_true rfl, Nat.le_of_ble_eq_true rfl⟩ ⟨Nat.le_refl _, Nat.le_refl _⟩ rfl hl.1 rfl (Nat.le_of_ble_eq_true rfl) dX1_takeFirstPart_26 (fun H locs G => ?_)
    refine lv_istore (lv' := [(6, .int (nI ((iF (relS (nI k)) 6 0 ((comeInC st r rp o 0), 0)).2))), (5, .int 0), (0, .ref (a 0)), (1, .int (nI k)), (2, .int (nI r)), (3, .int (nI rp)), (4, .int (nI o))]) hx hb dX1_takeFirstPart_29 hl (by decide) rfl (fun ls hl => ?_)
    refine lv_iload hx hb dX1_takeFirstPart_31 (lv_at hl 1 rfl) ?_
    refine lv_if_ne (tgt := 47) hx hb dX1_takeFirstPart_33 (by decide) (fun c2 => ?_) (fun c2 => ?_)
    · skip
      exact absurd c2 (by decide)
    · skip
      refine lv_aload_n hx hb dX1_takeFirstPart_36 rfl (lv_at hl 2 rfl) ?_
      refine g_get X G fX1_33 0 rfl rfl dX1_takeFirstPart_37 ?_
      refine lv_iload_n hx hb dX1_takeFirstPart_40 rfl (lv_at hl 3 rfl) ?_
      refine g_callVv (As := [.int (nI k)]) (rest := []) X kX1_99 (c_X2_forget l E a ((iF (relS (nI k)) 6 0 ((comeInC st r rp o 0), 0)).1) w k (by omega)) G 3 rfl rfl ⟨Nat.le_of_ble_eq_true rfl, Nat.le_of_ble_eq_true rfl⟩ ⟨Nat.le_refl _, Nat.le_refl _⟩ rfl hl.1 rfl (Nat.le_of_ble_eq_true rfl) dX1_takeFirstPart_41 (fun H locs G => ?_)
      refine lv_bipush (v := (-6)) hx hb dX1_takeFirstPart_44 (by decide) ?_
      exact g_iret X hr G (congrArg (fun z => wB E a z w) (by simp [tfpC, c1])) (by simp [tfpC, c1]) dX1_takeFirstPart_46
  · skip
    refine lv_iconst (v := 1) hx hb dX1_takeFirstPart_14 (by decide) ?_
    refine lv_goto (tgt := 19) hx hb dX1_takeFirstPart_15 (by decide) ?_
    refine lv_istore (lv' := [(5, .int 1), (0, .ref (a 0)), (1, .int (nI k)), (2, .int (nI r)), (3, .int (nI rp)), (4, .int (nI o))]) hx hb dX1_takeFirstPart_19 hl (by decide) rfl (fun ls hl => ?_)
    refine lv_aload_n hx hb dX1_takeFirstPart_21 rfl (lv_at hl 1 rfl) ?_
    refine g_get X G fX1_33 0 rfl rfl dX1_takeFirstPart_22 ?_
    refine lv_iload_n hx hb dX1_takeFirstPart_25 rfl (lv_at hl 2 rfl) ?_
    refine g_callV (As := [.int (nI k)]) (rest := []) X kX1_95 (c_X2_releaseHeld l E a (comeInC st r rp o 0) w (nI k)) G 3 rfl rfl ⟨Nat.le_of_ble_eq_true rfl, Nat.le_of_ble_eq_true rfl⟩ ⟨Nat.le_refl _, Nat.le_refl _⟩ rfl hl.1 rfl (Nat.le_of_ble_eq_true rfl) dX1_takeFirstPart_26 (fun H locs G => ?_)
    refine lv_istore (lv' := [(6, .int (nI ((iF (relS (nI k)) 6 0 ((comeInC st r rp o 0), 0)).2))), (5, .int 1), (0, .ref (a 0)), (1, .int (nI k)), (2, .int (nI r)), (3, .int (nI rp)), (4, .int (nI o))]) hx hb dX1_takeFirstPart_29 hl (by decide) rfl (fun ls hl => ?_)
    refine lv_iload hx hb dX1_takeFirstPart_31 (lv_at hl 1 rfl) ?_
    refine lv_if_ne (tgt := 47) hx hb dX1_takeFirstPart_33 (by decide) (fun c3 => ?_) (fun c3 => ?_)
    · skip
      refine lv_aload_n hx hb dX1_takeFirstPart_47 rfl (lv_at hl 2 rfl) ?_
      refine g_get X G fX1_33 0 rfl rfl dX1_takeFirstPart_48 ?_
      refine lv_iload_n hx hb dX1_takeFirstPart_51 rfl (lv_at hl 3 rfl) ?_
      refine lv_iload hx hb dX1_takeFirstPart_52 (lv_at hl 6 rfl) ?_
      refine lv_aload_n hx hb dX1_takeFirstPart_54 rfl (lv_at hl 2 rfl) ?_
      refine g_get X G fX1_37 0 rfl rfl dX1_takeFirstPart_55 ?_
      refine g_callVv (As := [.int (nI k), .int (nI o), .int (((iF (relS (nI k)) 6 0 ((comeInC st r rp o 0), 0)).1) 11 0)]) (rest := []) X kX1_103 (c_X2_know l E a ((iF (relS (nI k)) 6 0 ((comeInC st r rp o 0), 0)).1) w k (by omega) (nI o) (((iF (relS (nI k)) 6 0 ((comeInC st r rp o 0), 0)).1) 11 0)) G 3 rfl rfl ⟨Nat.le_of_ble_eq_true rfl, Nat.le_of_ble_eq_true rfl⟩ ⟨Nat.le_refl _, Nat.le_refl _⟩ rfl hl.1 rfl (Nat.le_of_ble_eq_true rfl) dX1_takeFirstPart_58 (fun H locs G => ?_)
      refine lv_iconst (v := 1) hx hb dX1_takeFirstPart_61 (by decide) ?_
      refine lv_iload hx hb dX1_takeFirstPart_62 (lv_at hl 0 rfl) ?_
      refine n_iadd 1 ((iF (relS (nI k)) 6 0 ((comeInC st r rp o 0), 0)).2) rfl rfl hx hb dX1_takeFirstPart_64 ?_
      exact g_iret X hr G (congrArg (fun z => wB E a z w) (by simp [tfpC, c1])) (by simp [tfpC, c1]) dX1_takeFirstPart_65
    · skip
      exact absurd c3 (by decide)
set_option maxHeartbeats 4000000 in
set_option maxRecDepth 100000 in
theorem c_X1_takeOtherPart (l : Launch) (E : EE) (a : Nat → Nat) (st : St) (w : va_W) (k : Nat) (hk : k < 32) (pt : Nat) (hpt : pt < 8) : Ct l yX1_takeOtherPart cX1_takeOtherPart 3 (some .int) 2 E [.ref (a 0), .int (nI k), .int (nI pt)] (wB E a st w) ((topC st k pt).1) (wB E a ((topC st k pt).2) w) := by
  refine Ct_mk RX1 rfl (by decide +kernel) (Nat.le_of_ble_eq_true rfl) ?_
  intro p e s m below meth c A ls X hr G hl
  have hl : lv_has ls 3 [(0, .ref (a 0)), (1, .int (nI k)), (2, .int (nI pt))] := hl
  obtain ⟨hx, hb, hml, hown, hts, hK, hA, hlocks⟩ := id X
  refine lv_aload_n hx hb dX1_takeOtherPart_0 rfl (lv_at hl 0 rfl) ?_
  refine g_get X G fX1_33 0 rfl rfl dX1_takeOtherPart_1 ?_
  refine lv_iload_n hx hb dX1_takeOtherPart_4 rfl (lv_at hl 1 rfl) ?_
  refine g_callV (As := [.int (nI k)]) (rest := []) X kX1_106 (c_X2_isKnown l E a st w k (by omega)) G 3 rfl rfl ⟨Nat.le_of_ble_eq_true rfl, Nat.le_of_ble_eq_true rfl⟩ ⟨Nat.le_refl _, Nat.le_refl _⟩ rfl hl.1 rfl (Nat.le_of_ble_eq_true rfl) dX1_takeOtherPart_5 (fun H locs G => ?_)
  refine b_ifeq (tgt := 15) hx hb dX1_takeOtherPart_8 (by decide) (fun c1 => ?_) (fun c1 => ?_)
  · skip
    refine lv_aload_n hx hb dX1_takeOtherPart_15 rfl (lv_at hl 0 rfl) ?_
    refine g_get X G fX1_33 0 rfl rfl dX1_takeOtherPart_16 ?_
    refine lv_iload_n hx hb dX1_takeOtherPart_19 rfl (lv_at hl 1 rfl) ?_
    refine lv_iload_n hx hb dX1_takeOtherPart_20 rfl (lv_at hl 2 rfl) ?_
    refine lv_aload_n hx hb dX1_takeOtherPart_21 rfl (lv_at hl 0 rfl) ?_
    refine g_get X G fX1_37 0 rfl rfl dX1_takeOtherPart_22 ?_
    refine g_callV (As := [.int (nI k), .int (nI pt), .int (st 11 0)]) (rest := []) X kX1_109 (c_X2_hold l E a st w k (by omega) pt (by omega) (st 11 0)) G 3 rfl rfl ⟨Nat.le_of_ble_eq_true rfl, Nat.le_of_ble_eq_true rfl⟩ ⟨Nat.le_refl _, Nat.le_refl _⟩ rfl hl.1 rfl (Nat.le_of_ble_eq_true rfl) dX1_takeOtherPart_25 (fun H locs G => ?_)
    exact g_iret X hr G (congrArg (fun z => wB E a z w) (by simp [topC, c1])) (by simp [topC, c1]) dX1_takeOtherPart_28
  · skip
    refine lv_iconst (v := 1) hx hb dX1_takeOtherPart_11 (by decide) ?_
    refine lv_goto (tgt := 28) hx hb dX1_takeOtherPart_12 (by decide) ?_
    exact g_iret X hr G (congrArg (fun z => wB E a z w) (by simp [topC, c1])) (by simp [topC, c1]) dX1_takeOtherPart_28
set_option maxHeartbeats 4000000 in
set_option maxRecDepth 100000 in
theorem c_X1_passTicks (l : Launch) (E : EE) (a : Nat → Nat) (st : St) (w : va_W) (n : Int32) : Ct l yX1_passTicks cX1_passTicks 2 (some .int) 4 E [.ref (a 0), .int n] (wB E a st w) (nI ((passC st n).2)) (wB E a ((passC st n).1) w) := by
  refine Ct_mk RX1 rfl (by decide +kernel) (Nat.le_of_ble_eq_true rfl) ?_
  intro p e s m below meth c A ls X hr G hl
  have hl : lv_has ls 2 [(0, .ref (a 0)), (1, .int n)] := hl
  obtain ⟨hx, hb, hml, hown, hts, hK, hA, hlocks⟩ := id X
  refine lv_aload_n hx hb dX1_passTicks_0 rfl (lv_at hl 0 rfl) ?_
  refine lv_dup hx hb dX1_passTicks_1 rfl ?_
  refine g_get X G fX1_37 0 rfl rfl dX1_passTicks_2 ?_
  refine lv_iload_n hx hb dX1_passTicks_5 rfl (lv_at hl 1 rfl) ?_
  refine lv_iadd hx hb dX1_passTicks_6 ?_
  refine g_put X G fX1_37 tyX1 tyX1_ok nmX1 0 rfl rfl rfl (by simp) dX1_passTicks_7 (fun H locs G => ?_)
  have G : Gw E A s (wB E a (sU st 11 0 ((st 11 0) + n)) w) H locs := G
  refine lv_aload_n hx hb dX1_passTicks_10 rfl (lv_at hl 0 rfl) ?_
  refine g_get X G fX1_33 0 rfl rfl dX1_passTicks_11 ?_
  refine lv_aload_n hx hb dX1_passTicks_14 rfl (lv_at hl 0 rfl) ?_
  refine g_get X G fX1_37 0 rfl rfl dX1_passTicks_15 ?_
  refine g_callVv (As := [.int ((sU st 11 0 ((st 11 0) + n)) 11 0)]) (rest := []) X kX1_112 (c_X2_endOld l E a (sU st 11 0 ((st 11 0) + n)) w ((sU st 11 0 ((st 11 0) + n)) 11 0)) G 3 rfl rfl ⟨Nat.le_of_ble_eq_true rfl, Nat.le_of_ble_eq_true rfl⟩ ⟨Nat.le_refl _, Nat.le_refl _⟩ rfl hl.1 rfl (Nat.le_of_ble_eq_true rfl) dX1_passTicks_18 (fun H locs G => ?_)
  refine lv_aload_n hx hb dX1_passTicks_21 rfl (lv_at hl 0 rfl) ?_
  refine g_callV (As := []) (rest := []) X kX1_44 (c_X1_endLapsed l E a (endOldC (sU st 11 0 ((st 11 0) + n)) ((sU st 11 0 ((st 11 0) + n)) 11 0)) w) G 0 rfl rfl ⟨Nat.le_of_ble_eq_true rfl, Nat.le_of_ble_eq_true rfl⟩ ⟨Nat.le_refl _, Nat.le_refl _⟩ rfl hl.1 rfl (Nat.le_of_ble_eq_true rfl) dX1_passTicks_22 (fun H locs G => ?_)
  exact g_iret X hr G (congrArg (fun z => wB E a z w) (by rfl)) (by rfl) dX1_passTicks_25
set_option maxHeartbeats 4000000 in
set_option maxRecDepth 100000 in
theorem c_X1_tellOfBinding (l : Launch) (E : EE) (a : Nat → Nat) (st : St) (w : va_W) (o : Nat) (ho : o < 16) (what : Int32) : Ct l yX1_tellOfBinding cX1_tellOfBinding 3 (some .int) 2 E [.ref (a 0), .int (nI o), .int what] (wB E a st w) (tellB st o what) (wB E a st w) := by
  refine Ct_mk RX1 rfl (by decide +kernel) (Nat.le_of_ble_eq_true rfl) ?_
  intro p e s m below meth c A ls X hr G hl
  have hl : lv_has ls 3 [(0, .ref (a 0)), (1, .int (nI o)), (2, .int what)] := hl
  obtain ⟨hx, hb, hml, hown, hts, hK, hA, hlocks⟩ := id X
  refine lv_iload_n hx hb dX1_tellOfBinding_0 rfl (lv_at hl 2 rfl) ?_
  by_cases c1 : what = 0
  · skip
    refine lv_tableIn (off := 35) (tgt := 36) hx hb dX1_tellOfBinding_1 (by rw [c1]; decide) (by rw [c1]; decide) (by rw [c1]; rfl) (by decide) ?_
    refine lv_aload_n hx hb dX1_tellOfBinding_36 rfl (lv_at hl 0 rfl) ?_
    refine g_get X G fX1_26 0 rfl rfl dX1_tellOfBinding_37 ?_
    refine g_get X G fX1_77 2 rfl rfl dX1_tellOfBinding_40 ?_
    refine lv_iload_n hx hb dX1_tellOfBinding_43 rfl (lv_at hl 1 rfl) ?_
    refine g_iald (j := o) X G 4 rfl rfl (by omega) (by decide) dX1_tellOfBinding_44 ?_
    exact g_iret X hr G rfl (by simp [tellB, c1]) dX1_tellOfBinding_45
  by_cases c2 : what = 1
  · skip
    refine lv_tableIn (off := 45) (tgt := 46) hx hb dX1_tellOfBinding_1 (by rw [c2]; decide) (by rw [c2]; decide) (by rw [c2]; rfl) (by decide) ?_
    refine lv_aload_n hx hb dX1_tellOfBinding_46 rfl (lv_at hl 0 rfl) ?_
    refine g_get X G fX1_26 0 rfl rfl dX1_tellOfBinding_47 ?_
    refine g_get X G fX1_63 2 rfl rfl dX1_tellOfBinding_50 ?_
    refine lv_iload_n hx hb dX1_tellOfBinding_53 rfl (lv_at hl 1 rfl) ?_
    refine g_iald (j := o) X G 5 rfl rfl (by omega) (by decide) dX1_tellOfBinding_54 ?_
    exact g_iret X hr G rfl (by simp [tellB, c1, c2]) dX1_tellOfBinding_55
  by_cases c3 : what = 2
  · skip
    refine lv_tableIn (off := 55) (tgt := 56) hx hb dX1_tellOfBinding_1 (by rw [c3]; decide) (by rw [c3]; decide) (by rw [c3]; rfl) (by decide) ?_
    refine lv_aload_n hx hb dX1_tellOfBinding_56 rfl (lv_at hl 0 rfl) ?_
    refine lv_iload_n hx hb dX1_tellOfBinding_57 rfl (lv_at hl 1 rfl) ?_
    refine g_callV (As := [.int (nI o)]) (rest := []) X kX1_127 (c_X1_ticksLeft l E a st w o (by omega)) G 0 rfl rfl ⟨Nat.le_of_ble_eq_true rfl, Nat.le_of_ble_eq_true rfl⟩ ⟨Nat.le_refl _, Nat.le_refl _⟩ rfl hl.1 rfl (Nat.le_of_ble_eq_true rfl) dX1_tellOfBinding_58 (fun H locs G => ?_)
    exact g_iret X hr G rfl (by simp [tellB, c1, c2, c3]) dX1_tellOfBinding_61
  by_cases c4 : what = 3
  · skip
    refine lv_tableIn (off := 61) (tgt := 62) hx hb dX1_tellOfBinding_1 (by rw [c4]; decide) (by rw [c4]; decide) (by rw [c4]; rfl) (by decide) ?_
    refine lv_aload_n hx hb dX1_tellOfBinding_62 rfl (lv_at hl 0 rfl) ?_
    refine g_get X G fX1_26 0 rfl rfl dX1_tellOfBinding_63 ?_
    refine lv_iload_n hx hb dX1_tellOfBinding_66 rfl (lv_at hl 1 rfl) ?_
    refine g_callV (As := [.int (nI o)]) (rest := []) X kX1_130 (c_X0_countSent l E a st w o (by omega)) G 2 rfl rfl ⟨Nat.le_of_ble_eq_true rfl, Nat.le_of_ble_eq_true rfl⟩ ⟨Nat.le_refl _, Nat.le_refl _⟩ rfl hl.1 rfl (Nat.le_of_ble_eq_true rfl) dX1_tellOfBinding_67 (fun H locs G => ?_)
    exact g_iret X hr G rfl (by simp [tellB, c1, c2, c3, c4]) dX1_tellOfBinding_70
  by_cases c5 : what = 4
  · skip
    refine lv_tableIn (off := 70) (tgt := 71) hx hb dX1_tellOfBinding_1 (by rw [c5]; decide) (by rw [c5]; decide) (by rw [c5]; rfl) (by decide) ?_
    refine lv_aload_n hx hb dX1_tellOfBinding_71 rfl (lv_at hl 0 rfl) ?_
    refine g_get X G fX1_26 0 rfl rfl dX1_tellOfBinding_72 ?_
    refine g_get X G fX1_133 2 rfl rfl dX1_tellOfBinding_75 ?_
    refine lv_iload_n hx hb dX1_tellOfBinding_78 rfl (lv_at hl 1 rfl) ?_
    refine g_iald (j := o) X G 7 rfl rfl (by omega) (by decide) dX1_tellOfBinding_79 ?_
    exact g_iret X hr G rfl (by simp [tellB, c1, c2, c3, c4, c5]) dX1_tellOfBinding_80
  have c6 : what.toInt < 0 ∨ 4 < what.toInt := tb_out4 c1 c2 c3 c4 c5
  refine lv_tableOut (tgt := 81) hx hb dX1_tellOfBinding_1 c6 (by decide) ?_
  refine lv_aload_n hx hb dX1_tellOfBinding_81 rfl (lv_at hl 0 rfl) ?_
  refine g_get X G fX1_26 0 rfl rfl dX1_tellOfBinding_82 ?_
  refine g_get X G fX1_136 2 rfl rfl dX1_tellOfBinding_85 ?_
  refine lv_iload_n hx hb dX1_tellOfBinding_88 rfl (lv_at hl 1 rfl) ?_
  refine g_iald (j := o) X G 8 rfl rfl (by omega) (by decide) dX1_tellOfBinding_89 ?_
  exact g_iret X hr G rfl (by simp [tellB, c1, c2, c3, c4, c5]) dX1_tellOfBinding_90
set_option maxHeartbeats 4000000 in
set_option maxRecDepth 100000 in
theorem c_X1_countFitFor (l : Launch) (E : EE) (a : Nat → Nat) (st : St) (w : va_W) (h : Int32) (port : Nat) (hport : port < 32) : Ct l yX1_countFitFor cX1_countFitFor 6 (some .int) 3 E [.ref (a 0), .int h, .int (nI port)] (wB E a st w) (nI (countFitC st h port)) (wB E a st w) := by
  refine Ct_mk RX1 rfl (by decide +kernel) (Nat.le_of_ble_eq_true rfl) ?_
  intro p e s m below meth c A ls X hr G hl
  have hl : lv_has ls 6 [(0, .ref (a 0)), (1, .int h), (2, .int (nI port))] := hl
  obtain ⟨hx, hb, hml, hown, hts, hK, hA, hlocks⟩ := id X
  refine lv_iconst (v := 0) hx hb dX1_countFitFor_0 (by decide) ?_
  refine lv_istore_n (lv' := [(3, .int 0), (0, .ref (a 0)), (1, .int h), (2, .int (nI port))]) hx hb dX1_countFitFor_1 rfl hl (by decide) rfl (fun ls hl => ?_)
  refine lv_iconst (v := 0) hx hb dX1_countFitFor_2 (by decide) ?_
  refine lv_istore (lv' := [(4, .int 0), (3, .int 0), (0, .ref (a 0)), (1, .int h), (2, .int (nI port))]) hx hb dX1_countFitFor_3 hl (by decide) rfl (fun ls hl => ?_)
  have LP5 : ∀ (n i : Nat) (k : Nat) (H : Heap) (locs : List Loc) (ls : Array Slot), (i + n = 16) → (k + cF (fun o => (decide (holderC st (o / 4) = h) || decide (holderC st (o / 4) = -6)) && fitC st o port) n i = countFitC st h port) → Gw E A s (wB E a st w) H locs → lv_has ls 6 [(0, .ref (a 0)), (1, .int h), (2, .int (nI port)), (3, .int (nI k)), (4, .int (nI i))] → W p l e (rmD 3) s m ([.ref (a 0), .int h, .int (nI port)] : List Value).toArray below meth c H locs 0 0 (MQ below (CtQ E A (nI (countFitC st h port)) (wB E a st w)) ([.ref (a 0), .int h, .int (nI port)] : List Value).toArray s 0 0 A) (F0 m 5 ls []) := by
    intro n
    induction n with
    | zero =>
      intro i k H locs ls hi hR G hl
      refine lv_iload hx hb dX1_countFitFor_5 (lv_at hl 4 rfl) ?_
      refine lv_bipush (v := 16) hx hb dX1_countFitFor_7 (by decide) ?_
      refine n_cmp_ge (tgt := 57) i 16 rfl rfl (by omega) (by omega) hx hb dX1_countFitFor_9 (by decide) (fun c1 => ?_) (fun c1 => ?_)
      · skip
        refine lv_iload_n hx hb dX1_countFitFor_57 rfl (lv_at hl 3 rfl) ?_
        exact g_iret X hr G rfl (by rw [← hR]; simp [cF]) dX1_countFitFor_58
      · skip
        exact absurd c1 (by omega)
    | succ n ih5 =>
      intro i k H locs ls hi hR G hl
      refine lv_iload hx hb dX1_countFitFor_5 (lv_at hl 4 rfl) ?_
      refine lv_bipush (v := 16) hx hb dX1_countFitFor_7 (by decide) ?_
      refine n_cmp_ge (tgt := 57) i 16 rfl rfl (by omega) (by omega) hx hb dX1_countFitFor_9 (by decide) (fun c2 => ?_) (fun c2 => ?_)
      · skip
        exact absurd c2 (by omega)
      · skip
        refine lv_aload_n hx hb dX1_countFitFor_12 rfl (lv_at hl 0 rfl) ?_
        refine g_get X G fX1_26 0 rfl rfl dX1_countFitFor_13 ?_
        refine lv_iload hx hb dX1_countFitFor_16 (lv_at hl 4 rfl) ?_
        refine lv_iconst (v := 4) hx hb dX1_countFitFor_18 (by decide) ?_
        refine n_idiv i 4 rfl rfl (by omega) (by decide) (by decide) hx hb dX1_countFitFor_19 ?_
        refine g_callV (As := [.int (nI (i / 4))]) (rest := []) X kX1_118 (c_X0_holderOf l E a st w (i / 4) (by omega)) G 2 rfl rfl ⟨Nat.le_of_ble_eq_true rfl, Nat.le_of_ble_eq_true rfl⟩ ⟨Nat.le_refl _, Nat.le_refl _⟩ rfl hl.1 rfl (Nat.le_of_ble_eq_true rfl) dX1_countFitFor_20 (fun H locs G => ?_)
        refine lv_istore (lv' := [(5, .int (holderC st (i / 4))), (0, .ref (a 0)), (1, .int h), (2, .int (nI port)), (3, .int (nI k)), (4, .int (nI i))]) hx hb dX1_countFitFor_23 hl (by decide) rfl (fun ls hl => ?_)
        refine lv_iload hx hb dX1_countFitFor_25 (lv_at hl 0 rfl) ?_
        refine lv_iload_n hx hb dX1_countFitFor_27 rfl (lv_at hl 2 rfl) ?_
        refine lv_icmp_eq (tgt := 38) hx hb dX1_countFitFor_28 (by decide) (fun c3 => ?_) (fun c3 => ?_)
        · skip
          refine lv_aload_n hx hb dX1_countFitFor_38 rfl (lv_at hl 1 rfl) ?_
          refine lv_iload hx hb dX1_countFitFor_39 (lv_at hl 5 rfl) ?_
          refine lv_iload_n hx hb dX1_countFitFor_41 rfl (lv_at hl 3 rfl) ?_
          refine g_callV (As := [.int (nI i), .int (nI port)]) (rest := []) X kX1_115 (c_X1_isFit l E a st w i (by omega) port (by omega)) G 0 rfl rfl ⟨Nat.le_of_ble_eq_true rfl, Nat.le_of_ble_eq_true rfl⟩ ⟨Nat.le_refl _, Nat.le_refl _⟩ rfl hl.1 rfl (Nat.le_of_ble_eq_true rfl) dX1_countFitFor_42 (fun H locs G => ?_)
          refine b_ifeq (tgt := 51) hx hb dX1_countFitFor_45 (by decide) (fun c4 => ?_) (fun c4 => ?_)
          · skip
            refine lv_iinc (v := nI (i + 1)) (lv' := [(4, .int (nI (i + 1))), (5, .int (holderC st (i / 4))), (0, .ref (a 0)), (1, .int h), (2, .int (nI port)), (3, .int (nI k))]) hx hb dX1_countFitFor_51 hl (k := 5) rfl (nI_inc _) (by decide) rfl (fun ls hl => ?_)
            refine lv_goto (tgt := 5) hx hb dX1_countFitFor_54 (by decide) ?_
            exact ih5 (i + 1) k _ _ ls (by omega) (by simp [cF, c2, c3, c4] at hR ⊢; omega) G (lv_sub hl [2, 3, 4, 5, 0] rfl)
          · skip
            refine lv_iinc (v := nI (k + 1)) (lv' := [(3, .int (nI (k + 1))), (5, .int (holderC st (i / 4))), (0, .ref (a 0)), (1, .int h), (2, .int (nI port)), (4, .int (nI i))]) hx hb dX1_countFitFor_48 hl (k := 4) rfl (nI_inc _) (by decide) rfl (fun ls hl => ?_)
            refine lv_iinc (v := nI (i + 1)) (lv' := [(4, .int (nI (i + 1))), (3, .int (nI (k + 1))), (5, .int (holderC st (i / 4))), (0, .ref (a 0)), (1, .int h), (2, .int (nI port))]) hx hb dX1_countFitFor_51 hl (k := 5) rfl (nI_inc _) (by decide) rfl (fun ls hl => ?_)
            refine lv_goto (tgt := 5) hx hb dX1_countFitFor_54 (by decide) ?_
            exact ih5 (i + 1) (k + 1) _ _ ls (by omega) (by simp [cF, c2, c3, c4] at hR ⊢; omega) G (lv_sub hl [3, 4, 5, 1, 0] rfl)
        · skip
          refine lv_iload hx hb dX1_countFitFor_31 (lv_at hl 0 rfl) ?_
          refine lv_bipush (v := (-6)) hx hb dX1_countFitFor_33 (by decide) ?_
          refine lv_icmp_ne (tgt := 51) hx hb dX1_countFitFor_35 (by decide) (fun c5 => ?_) (fun c5 => ?_)
          · skip
            refine lv_iinc (v := nI (i + 1)) (lv' := [(4, .int (nI (i + 1))), (5, .int (holderC st (i / 4))), (0, .ref (a 0)), (1, .int h), (2, .int (nI port)), (3, .int (nI k))]) hx hb dX1_countFitFor_51 hl (k := 5) rfl (nI_inc _) (by decide) rfl (fun ls hl => ?_)
            refine lv_goto (tgt := 5) hx hb dX1_countFitFor_54 (by decide) ?_
            exact ih5 (i + 1) k _ _ ls (by omega) (by simp [cF, c2, c3, c5] at hR ⊢; omega) G (lv_sub hl [2, 3, 4, 5, 0] rfl)
          · skip
            refine lv_aload_n hx hb dX1_countFitFor_38 rfl (lv_at hl 1 rfl) ?_
            refine lv_iload hx hb dX1_countFitFor_39 (lv_at hl 5 rfl) ?_
            refine lv_iload_n hx hb dX1_countFitFor_41 rfl (lv_at hl 3 rfl) ?_
            refine g_callV (As := [.int (nI i), .int (nI port)]) (rest := []) X kX1_115 (c_X1_isFit l E a st w i (by omega) port (by omega)) G 0 rfl rfl ⟨Nat.le_of_ble_eq_true rfl, Nat.le_of_ble_eq_true rfl⟩ ⟨Nat.le_refl _, Nat.le_refl _⟩ rfl hl.1 rfl (Nat.le_of_ble_eq_true rfl) dX1_countFitFor_42 (fun H locs G => ?_)
            refine b_ifeq (tgt := 51) hx hb dX1_countFitFor_45 (by decide) (fun c6 => ?_) (fun c6 => ?_)
            · skip
              refine lv_iinc (v := nI (i + 1)) (lv' := [(4, .int (nI (i + 1))), (5, .int (holderC st (i / 4))), (0, .ref (a 0)), (1, .int h), (2, .int (nI port)), (3, .int (nI k))]) hx hb dX1_countFitFor_51 hl (k := 5) rfl (nI_inc _) (by decide) rfl (fun ls hl => ?_)
              refine lv_goto (tgt := 5) hx hb dX1_countFitFor_54 (by decide) ?_
              exact ih5 (i + 1) k _ _ ls (by omega) (by simp [cF, c2, c3, c5, c6] at hR ⊢; omega) G (lv_sub hl [2, 3, 4, 5, 0] rfl)
            · skip
              refine lv_iinc (v := nI (k + 1)) (lv' := [(3, .int (nI (k + 1))), (5, .int (holderC st (i / 4))), (0, .ref (a 0)), (1, .int h), (2, .int (nI port)), (4, .int (nI i))]) hx hb dX1_countFitFor_48 hl (k := 4) rfl (nI_inc _) (by decide) rfl (fun ls hl => ?_)
              refine lv_iinc (v := nI (i + 1)) (lv' := [(4, .int (nI (i + 1))), (3, .int (nI (k + 1))), (5, .int (holderC st (i / 4))), (0, .ref (a 0)), (1, .int h), (2, .int (nI port))]) hx hb dX1_countFitFor_51 hl (k := 5) rfl (nI_inc _) (by decide) rfl (fun ls hl => ?_)
              refine lv_goto (tgt := 5) hx hb dX1_countFitFor_54 (by decide) ?_
              exact ih5 (i + 1) (k + 1) _ _ ls (by omega) (by simp [cF, c2, c3, c5, c6] at hR ⊢; omega) G (lv_sub hl [3, 4, 5, 1, 0] rfl)
  exact LP5 16 0 0 _ _ ls (by omega) (by simp [countFitC]) G (lv_sub hl [2, 3, 4, 1, 0] rfl)
set_option maxHeartbeats 4000000 in
set_option maxRecDepth 100000 in
theorem c_X1_tellOfHost (l : Launch) (E : EE) (a : Nat → Nat) (st : St) (w : va_W) (h : Int32) (what : Int32) : Ct l yX1_tellOfHost cX1_tellOfHost 3 (some .int) 4 E [.ref (a 0), .int h, .int what] (wB E a st w) (tellH st h what) (wB E a st w) := by
  refine Ct_mk RX1 rfl (by decide +kernel) (Nat.le_of_ble_eq_true rfl) ?_
  intro p e s m below meth c A ls X hr G hl
  have hl : lv_has ls 3 [(0, .ref (a 0)), (1, .int h), (2, .int what)] := hl
  obtain ⟨hx, hb, hml, hown, hts, hK, hA, hlocks⟩ := id X
  refine lv_iload_n hx hb dX1_tellOfHost_0 rfl (lv_at hl 2 rfl) ?_
  by_cases c1 : what = 0
  · skip
    refine lv_tableIn (off := 27) (tgt := 28) hx hb dX1_tellOfHost_1 (by rw [c1]; decide) (by rw [c1]; decide) (by rw [c1]; rfl) (by decide) ?_
    refine lv_aload_n hx hb dX1_tellOfHost_28 rfl (lv_at hl 0 rfl) ?_
    refine g_get X G fX1_26 0 rfl rfl dX1_tellOfHost_29 ?_
    refine lv_iload_n hx hb dX1_tellOfHost_32 rfl (lv_at hl 1 rfl) ?_
    refine g_callV (As := [.int h]) (rest := []) X kX1_139 (c_X0_countOfHost l E a st w h) G 2 rfl rfl ⟨Nat.le_of_ble_eq_true rfl, Nat.le_of_ble_eq_true rfl⟩ ⟨Nat.le_refl _, Nat.le_refl _⟩ rfl hl.1 rfl (Nat.le_of_ble_eq_true rfl) dX1_tellOfHost_33 (fun H locs G => ?_)
    exact g_iret X hr G rfl (by simp [tellH, c1]) dX1_tellOfHost_36
  by_cases c2 : what = 1
  · skip
    refine lv_tableIn (off := 36) (tgt := 37) hx hb dX1_tellOfHost_1 (by rw [c2]; decide) (by rw [c2]; decide) (by rw [c2]; rfl) (by decide) ?_
    refine lv_aload_n hx hb dX1_tellOfHost_37 rfl (lv_at hl 0 rfl) ?_
    refine g_get X G fX1_26 0 rfl rfl dX1_tellOfHost_38 ?_
    refine lv_iload_n hx hb dX1_tellOfHost_41 rfl (lv_at hl 1 rfl) ?_
    refine g_callV (As := [.int h]) (rest := []) X kX1_142 (c_X0_blocksOf l E a st w h) G 2 rfl rfl ⟨Nat.le_of_ble_eq_true rfl, Nat.le_of_ble_eq_true rfl⟩ ⟨Nat.le_refl _, Nat.le_refl _⟩ rfl hl.1 rfl (Nat.le_of_ble_eq_true rfl) dX1_tellOfHost_42 (fun H locs G => ?_)
    exact g_iret X hr G rfl (by simp [tellH, c1, c2]) dX1_tellOfHost_45
  by_cases c3 : what = 2
  · skip
    refine lv_tableIn (off := 45) (tgt := 46) hx hb dX1_tellOfHost_1 (by rw [c3]; decide) (by rw [c3]; decide) (by rw [c3]; rfl) (by decide) ?_
    refine lv_aload_n hx hb dX1_tellOfHost_46 rfl (lv_at hl 0 rfl) ?_
    refine lv_iload_n hx hb dX1_tellOfHost_47 rfl (lv_at hl 1 rfl) ?_
    refine lv_iconst (v := 0) hx hb dX1_tellOfHost_48 (by decide) ?_
    refine g_callV (As := [.int h, .int 0]) (rest := []) X kX1_145 (c_X1_countFitFor l E a st w h 0 (by omega)) G 0 rfl rfl ⟨Nat.le_of_ble_eq_true rfl, Nat.le_of_ble_eq_true rfl⟩ ⟨Nat.le_refl _, Nat.le_refl _⟩ rfl hl.1 rfl (Nat.le_of_ble_eq_true rfl) dX1_tellOfHost_49 (fun H locs G => ?_)
    exact g_iret X hr G rfl (by simp [tellH, c1, c2, c3]) dX1_tellOfHost_52
  have c4 : what.toInt < 0 ∨ 2 < what.toInt := tb_out2 c1 c2 c3
  refine lv_tableOut (tgt := 53) hx hb dX1_tellOfHost_1 c4 (by decide) ?_
  refine lv_aload_n hx hb dX1_tellOfHost_53 rfl (lv_at hl 0 rfl) ?_
  refine lv_iload_n hx hb dX1_tellOfHost_54 rfl (lv_at hl 1 rfl) ?_
  refine lv_iconst (v := 1) hx hb dX1_tellOfHost_55 (by decide) ?_
  refine g_callV (As := [.int h, .int 1]) (rest := []) X kX1_145 (c_X1_countFitFor l E a st w h 1 (by omega)) G 0 rfl rfl ⟨Nat.le_of_ble_eq_true rfl, Nat.le_of_ble_eq_true rfl⟩ ⟨Nat.le_refl _, Nat.le_refl _⟩ rfl hl.1 rfl (Nat.le_of_ble_eq_true rfl) dX1_tellOfHost_56 (fun H locs G => ?_)
  exact g_iret X hr G rfl (by simp [tellH, c1, c2, c3]) dX1_tellOfHost_59
set_option maxHeartbeats 4000000 in
set_option maxRecDepth 100000 in
theorem c_X1_leastTicksLeft (l : Launch) (E : EE) (a : Nat → Nat) (st : St) (w : va_W) : Ct l yX1_leastTicksLeft cX1_leastTicksLeft 3 (some .int) 2 E [.ref (a 0)] (wB E a st w) (ltF st 16 0 (-6)) (wB E a st w) := by
  refine Ct_mk RX1 rfl (by decide +kernel) (Nat.le_of_ble_eq_true rfl) ?_
  intro p e s m below meth c A ls X hr G hl
  have hl : lv_has ls 3 [(0, .ref (a 0))] := hl
  obtain ⟨hx, hb, hml, hown, hts, hK, hA, hlocks⟩ := id X
  refine lv_bipush (v := (-6)) hx hb dX1_leastTicksLeft_0 (by decide) ?_
  refine lv_istore_n (lv' := [(1, .int (-6)), (0, .ref (a 0))]) hx hb dX1_leastTicksLeft_2 rfl hl (by decide) rfl (fun ls hl => ?_)
  refine lv_iconst (v := 0) hx hb dX1_leastTicksLeft_3 (by decide) ?_
  refine lv_istore_n (lv' := [(2, .int 0), (1, .int (-6)), (0, .ref (a 0))]) hx hb dX1_leastTicksLeft_4 rfl hl (by decide) rfl (fun ls hl => ?_)
  have LP5 : ∀ (n i : Nat) (x : Int32) (H : Heap) (locs : List Loc) (ls : Array Slot), (i + n = 16) → (ltF st n i x = ltF st 16 0 (-6)) → Gw E A s (wB E a st w) H locs → lv_has ls 3 [(0, .ref (a 0)), (1, .int x), (2, .int (nI i))] → W p l e (rmD 2) s m ([.ref (a 0)] : List Value).toArray below meth c H locs 0 0 (MQ below (CtQ E A (ltF st 16 0 (-6)) (wB E a st w)) ([.ref (a 0)] : List Value).toArray s 0 0 A) (F0 m 5 ls []) := by
    intro n
    induction n with
    | zero =>
      intro i x H locs ls hi hR G hl
      refine lv_iload_n hx hb dX1_leastTicksLeft_5 rfl (lv_at hl 2 rfl) ?_
      refine lv_bipush (v := 16) hx hb dX1_leastTicksLeft_6 (by decide) ?_
      refine n_cmp_ge (tgt := 49) i 16 rfl rfl (by omega) (by omega) hx hb dX1_leastTicksLeft_8 (by decide) (fun c1 => ?_) (fun c1 => ?_)
      · skip
        refine lv_iload_n hx hb dX1_leastTicksLeft_49 rfl (lv_at hl 1 rfl) ?_
        exact g_iret X hr G rfl (by rw [← hR]; rfl) dX1_leastTicksLeft_50
      · skip
        exact absurd c1 (by omega)
    | succ n ih5 =>
      intro i x H locs ls hi hR G hl
      refine lv_iload_n hx hb dX1_leastTicksLeft_5 rfl (lv_at hl 2 rfl) ?_
      refine lv_bipush (v := 16) hx hb dX1_leastTicksLeft_6 (by decide) ?_
      refine n_cmp_ge (tgt := 49) i 16 rfl rfl (by omega) (by omega) hx hb dX1_leastTicksLeft_8 (by decide) (fun c2 => ?_) (fun c2 => ?_)
      · skip
        exact absurd c2 (by omega)
      · skip
        refine lv_aload_n hx hb dX1_leastTicksLeft_11 rfl (lv_at hl 0 rfl) ?_
        refine g_get X G fX1_26 0 rfl rfl dX1_leastTicksLeft_12 ?_
        refine lv_iload_n hx hb dX1_leastTicksLeft_15 rfl (lv_at hl 2 rfl) ?_
        refine g_callV (As := [.int (nI i)]) (rest := []) X kX1_80 (c_X0_isLent l E a st w i (by omega)) G 2 rfl rfl ⟨Nat.le_of_ble_eq_true rfl, Nat.le_of_ble_eq_true rfl⟩ ⟨Nat.le_refl _, Nat.le_refl _⟩ rfl hl.1 rfl (Nat.le_of_ble_eq_true rfl) dX1_leastTicksLeft_16 (fun H locs G => ?_)
        refine b_ifeq (tgt := 43) hx hb dX1_leastTicksLeft_19 (by decide) (fun c3 => ?_) (fun c3 => ?_)
        · skip
          refine lv_iinc (v := nI (i + 1)) (lv' := [(2, .int (nI (i + 1))), (0, .ref (a 0)), (1, .int x)]) hx hb dX1_leastTicksLeft_43 hl (k := 2) rfl (nI_inc _) (by decide) rfl (fun ls hl => ?_)
          refine lv_goto (tgt := 5) hx hb dX1_leastTicksLeft_46 (by decide) ?_
          exact ih5 (i + 1) x _ _ ls (by omega) (by rw [← hR]; simp [ltF, c2, c3]) G (lv_sub hl [1, 2, 0] rfl)
        · skip
          refine lv_iload_n hx hb dX1_leastTicksLeft_22 rfl (lv_at hl 1 rfl) ?_
          refine lv_bipush (v := (-6)) hx hb dX1_leastTicksLeft_23 (by decide) ?_
          refine lv_icmp_eq (tgt := 37) hx hb dX1_leastTicksLeft_25 (by decide) (fun c4 => ?_) (fun c4 => ?_)
          · skip
            refine lv_aload_n hx hb dX1_leastTicksLeft_37 rfl (lv_at hl 0 rfl) ?_
            refine lv_iload_n hx hb dX1_leastTicksLeft_38 rfl (lv_at hl 2 rfl) ?_
            refine g_callV (As := [.int (nI i)]) (rest := []) X kX1_127 (c_X1_ticksLeft l E a st w i (by omega)) G 0 rfl rfl ⟨Nat.le_of_ble_eq_true rfl, Nat.le_of_ble_eq_true rfl⟩ ⟨Nat.le_refl _, Nat.le_refl _⟩ rfl hl.1 rfl (Nat.le_of_ble_eq_true rfl) dX1_leastTicksLeft_39 (fun H locs G => ?_)
            refine lv_istore_n (lv' := [(1, .int (leftC st i)), (0, .ref (a 0)), (2, .int (nI i))]) hx hb dX1_leastTicksLeft_42 rfl hl (by decide) rfl (fun ls hl => ?_)
            refine lv_iinc (v := nI (i + 1)) (lv' := [(2, .int (nI (i + 1))), (1, .int (leftC st i)), (0, .ref (a 0))]) hx hb dX1_leastTicksLeft_43 hl (k := 2) rfl (nI_inc _) (by decide) rfl (fun ls hl => ?_)
            refine lv_goto (tgt := 5) hx hb dX1_leastTicksLeft_46 (by decide) ?_
            exact ih5 (i + 1) (leftC st i) _ _ ls (by omega) (by rw [← hR]; simp [ltF, c2, c3, c4]) G (lv_sub hl [2, 1, 0] rfl)
          · skip
            refine lv_aload_n hx hb dX1_leastTicksLeft_28 rfl (lv_at hl 0 rfl) ?_
            refine lv_iload_n hx hb dX1_leastTicksLeft_29 rfl (lv_at hl 2 rfl) ?_
            refine g_callV (As := [.int (nI i)]) (rest := []) X kX1_127 (c_X1_ticksLeft l E a st w i (by omega)) G 0 rfl rfl ⟨Nat.le_of_ble_eq_true rfl, Nat.le_of_ble_eq_true rfl⟩ ⟨Nat.le_refl _, Nat.le_refl _⟩ rfl hl.1 rfl (Nat.le_of_ble_eq_true rfl) dX1_leastTicksLeft_30 (fun H locs G => ?_)
            refine lv_iload_n hx hb dX1_leastTicksLeft_33 rfl (lv_at hl 1 rfl) ?_
            refine lv_icmp_ge (tgt := 43) hx hb dX1_leastTicksLeft_34 (by decide) (fun c5 => ?_) (fun c5 => ?_)
            · skip
              refine lv_iinc (v := nI (i + 1)) (lv' := [(2, .int (nI (i + 1))), (0, .ref (a 0)), (1, .int x)]) hx hb dX1_leastTicksLeft_43 hl (k := 2) rfl (nI_inc _) (by decide) rfl (fun ls hl => ?_)
              refine lv_goto (tgt := 5) hx hb dX1_leastTicksLeft_46 (by decide) ?_
              exact ih5 (i + 1) x _ _ ls (by omega) (by rw [← hR]; simp [ltF, c2, c3, c4, c5]) G (lv_sub hl [1, 2, 0] rfl)
            · skip
              refine lv_aload_n hx hb dX1_leastTicksLeft_37 rfl (lv_at hl 0 rfl) ?_
              refine lv_iload_n hx hb dX1_leastTicksLeft_38 rfl (lv_at hl 2 rfl) ?_
              refine g_callV (As := [.int (nI i)]) (rest := []) X kX1_127 (c_X1_ticksLeft l E a st w i (by omega)) G 0 rfl rfl ⟨Nat.le_of_ble_eq_true rfl, Nat.le_of_ble_eq_true rfl⟩ ⟨Nat.le_refl _, Nat.le_refl _⟩ rfl hl.1 rfl (Nat.le_of_ble_eq_true rfl) dX1_leastTicksLeft_39 (fun H locs G => ?_)
              refine lv_istore_n (lv' := [(1, .int (leftC st i)), (0, .ref (a 0)), (2, .int (nI i))]) hx hb dX1_leastTicksLeft_42 rfl hl (by decide) rfl (fun ls hl => ?_)
              refine lv_iinc (v := nI (i + 1)) (lv' := [(2, .int (nI (i + 1))), (1, .int (leftC st i)), (0, .ref (a 0))]) hx hb dX1_leastTicksLeft_43 hl (k := 2) rfl (nI_inc _) (by decide) rfl (fun ls hl => ?_)
              refine lv_goto (tgt := 5) hx hb dX1_leastTicksLeft_46 (by decide) ?_
              exact ih5 (i + 1) (leftC st i) _ _ ls (by omega) (by rw [← hR]; simp [ltF, c2, c3, c4, c5]) G (lv_sub hl [2, 1, 0] rfl)
  exact LP5 16 0 (-6) _ _ ls (by omega) rfl G (lv_sub hl [2, 1, 0] rfl)
set_option maxHeartbeats 4000000 in
set_option maxRecDepth 100000 in
theorem c_X1_endBindingsOf (l : Launch) (E : EE) (a : Nat → Nat) (st : St) (w : va_W) (h : Int32) : Ct l yX1_endBindingsOf cX1_endBindingsOf 4 (some .int) 3 E [.ref (a 0), .int h] (wB E a st w) (nI ((iF (dropS h) 16 0 (st, 0)).2)) (wB E a ((iF (dropS h) 16 0 (st, 0)).1) w) := by
  refine Ct_mk RX1 rfl (by decide +kernel) (Nat.le_of_ble_eq_true rfl) ?_
  intro p e s m below meth c A ls X hr G hl
  have hl : lv_has ls 4 [(0, .ref (a 0)), (1, .int h)] := hl
  obtain ⟨hx, hb, hml, hown, hts, hK, hA, hlocks⟩ := id X
  refine lv_iconst (v := 0) hx hb dX1_endBindingsOf_0 (by decide) ?_
  refine lv_istore_n (lv' := [(2, .int 0), (0, .ref (a 0)), (1, .int h)]) hx hb dX1_endBindingsOf_1 rfl hl (by decide) rfl (fun ls hl => ?_)
  refine lv_iconst (v := 0) hx hb dX1_endBindingsOf_2 (by decide) ?_
  refine lv_istore_n (lv' := [(3, .int 0), (2, .int 0), (0, .ref (a 0)), (1, .int h)]) hx hb dX1_endBindingsOf_3 rfl hl (by decide) rfl (fun ls hl => ?_)
  have LP4 : ∀ (n i : Nat) (sx : St) (z : Nat) (H : Heap) (locs : List Loc) (ls : Array Slot), (i + n = 16) → (iF (dropS h) n i (sx, z) = iF (dropS h) 16 0 (st, 0)) → Gw E A s (wB E a sx w) H locs → lv_has ls 4 [(0, .ref (a 0)), (1, .int h), (2, .int (nI z)), (3, .int (nI i))] → W p l e (rmD 3) s m ([.ref (a 0), .int h] : List Value).toArray below meth c H locs 0 0 (MQ below (CtQ E A (nI ((iF (dropS h) 16 0 (st, 0)).2)) (wB E a ((iF (dropS h) 16 0 (st, 0)).1) w)) ([.ref (a 0), .int h] : List Value).toArray s 0 0 A) (F0 m 4 ls []) := by
    intro n
    induction n with
    | zero =>
      intro i sx z H locs ls hi hR G hl
      refine lv_iload_n hx hb dX1_endBindingsOf_4 rfl (lv_at hl 3 rfl) ?_
      refine lv_bipush (v := 16) hx hb dX1_endBindingsOf_5 (by decide) ?_
      refine n_cmp_ge (tgt := 36) i 16 rfl rfl (by omega) (by omega) hx hb dX1_endBindingsOf_7 (by decide) (fun c1 => ?_) (fun c1 => ?_)
      · skip
        refine lv_iload_n hx hb dX1_endBindingsOf_36 rfl (lv_at hl 2 rfl) ?_
        exact g_iret X hr G (congrArg (fun z => wB E a z w) (by rw [← hR]; rfl)) (by rw [← hR]; rfl) dX1_endBindingsOf_37
      · skip
        exact absurd c1 (by omega)
    | succ n ih4 =>
      intro i sx z H locs ls hi hR G hl
      refine lv_iload_n hx hb dX1_endBindingsOf_4 rfl (lv_at hl 3 rfl) ?_
      refine lv_bipush (v := 16) hx hb dX1_endBindingsOf_5 (by decide) ?_
      refine n_cmp_ge (tgt := 36) i 16 rfl rfl (by omega) (by omega) hx hb dX1_endBindingsOf_7 (by decide) (fun c2 => ?_) (fun c2 => ?_)
      · skip
        exact absurd c2 (by omega)
      · skip
        refine lv_aload_n hx hb dX1_endBindingsOf_10 rfl (lv_at hl 0 rfl) ?_
        refine g_get X G fX1_26 0 rfl rfl dX1_endBindingsOf_11 ?_
        refine lv_iload_n hx hb dX1_endBindingsOf_14 rfl (lv_at hl 3 rfl) ?_
        refine g_callV (As := [.int (nI i)]) (rest := []) X kX1_154 (c_X0_hostOf l E a sx w i (by omega)) G 2 rfl rfl ⟨Nat.le_of_ble_eq_true rfl, Nat.le_of_ble_eq_true rfl⟩ ⟨Nat.le_refl _, Nat.le_refl _⟩ rfl hl.1 rfl (Nat.le_of_ble_eq_true rfl) dX1_endBindingsOf_15 (fun H locs G => ?_)
        refine lv_iload_n hx hb dX1_endBindingsOf_18 rfl (lv_at hl 1 rfl) ?_
        refine lv_icmp_ne (tgt := 30) hx hb dX1_endBindingsOf_19 (by decide) (fun c3 => ?_) (fun c3 => ?_)
        · skip
          refine lv_iinc (v := nI (i + 1)) (lv' := [(3, .int (nI (i + 1))), (0, .ref (a 0)), (1, .int h), (2, .int (nI z))]) hx hb dX1_endBindingsOf_30 hl (k := 3) rfl (nI_inc _) (by decide) rfl (fun ls hl => ?_)
          refine lv_goto (tgt := 4) hx hb dX1_endBindingsOf_33 (by decide) ?_
          exact ih4 (i + 1) sx z _ _ ls (by omega) (by rw [← hR]; simp [iF, dropS, c2, c3]) G (lv_sub hl [1, 2, 3, 0] rfl)
        · skip
          refine lv_aload_n hx hb dX1_endBindingsOf_22 rfl (lv_at hl 0 rfl) ?_
          refine lv_iload_n hx hb dX1_endBindingsOf_23 rfl (lv_at hl 3 rfl) ?_
          refine g_callVv (As := [.int (nI i)]) (rest := []) X kX1_151 (c_X1_endBinding l E a sx w i (by omega)) G 0 rfl rfl ⟨Nat.le_of_ble_eq_true rfl, Nat.le_of_ble_eq_true rfl⟩ ⟨Nat.le_refl _, Nat.le_refl _⟩ rfl hl.1 rfl (Nat.le_of_ble_eq_true rfl) dX1_endBindingsOf_24 (fun H locs G => ?_)
          refine lv_iinc (v := nI (z + 1)) (lv' := [(2, .int (nI (z + 1))), (0, .ref (a 0)), (1, .int h), (3, .int (nI i))]) hx hb dX1_endBindingsOf_27 hl (k := 2) rfl (nI_inc _) (by decide) rfl (fun ls hl => ?_)
          refine lv_iinc (v := nI (i + 1)) (lv' := [(3, .int (nI (i + 1))), (2, .int (nI (z + 1))), (0, .ref (a 0)), (1, .int h)]) hx hb dX1_endBindingsOf_30 hl (k := 3) rfl (nI_inc _) (by decide) rfl (fun ls hl => ?_)
          refine lv_goto (tgt := 4) hx hb dX1_endBindingsOf_33 (by decide) ?_
          exact ih4 (i + 1) (endB i sx) (z + 1) _ _ ls (by omega) (by rw [← hR]; simp [iF, dropS, c2, c3]) G (lv_sub hl [2, 3, 1, 0] rfl)
  exact LP4 16 0 st 0 _ _ ls (by omega) rfl G (lv_sub hl [2, 3, 1, 0] rfl)
end
section
theorem i_vc : Claimed_1_1 ∧ Claimed_1_2 := sorry
end
