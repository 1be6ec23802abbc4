section
-- ===== PART A: goes FIRST, ahead of the names: the tables' words, and 'selects' of the private methods out of them =====
/-- a private method of a class that the tables say can be made, by its rows of tables_1 -/
def lw_okq (q : MethodName × Nat) : Prop := (q.1.cls ≠ "java/lang/invoke/MethodHandle" ∧ q.1.cls ≠ "java/lang/invoke/VarHandle") ∧ Cond.instantiable q.1.cls q.2 ∈ tables_1 ∧ Cond.privateMethod q.1 ∈ tables_1 ∧ Cond.instanceMethod q.1 ∈ tables_1
theorem lw_p0 : lw_okq (⟨"OneSocket$Reader", "next", "()V"⟩, 7) := ⟨⟨by decide +kernel, by decide +kernel⟩, List.mem_of_getElem? (i := 95) (by decide +kernel), List.mem_of_getElem? (i := 335) (by decide +kernel), List.mem_of_getElem? (i := 336) (by decide +kernel)⟩
theorem lw_p1 : lw_okq (⟨"OneSocket$Reader", "scanNumber", "()V"⟩, 7) := ⟨⟨by decide +kernel, by decide +kernel⟩, List.mem_of_getElem? (i := 95) (by decide +kernel), List.mem_of_getElem? (i := 342) (by decide +kernel), List.mem_of_getElem? (i := 343) (by decide +kernel)⟩
theorem lw_p2 : lw_okq (⟨"OneSocket$Reader", "readPhone", "(LOneSocket$Told;)Z"⟩, 7) := ⟨⟨by decide +kernel, by decide +kernel⟩, List.mem_of_getElem? (i := 95) (by decide +kernel), List.mem_of_getElem? (i := 352) (by decide +kernel), List.mem_of_getElem? (i := 353) (by decide +kernel)⟩
theorem lw_p3 : lw_okq (⟨"OneSocket$Reader", "nextIsNumber", "(II)Z"⟩, 7) := ⟨⟨by decide +kernel, by decide +kernel⟩, List.mem_of_getElem? (i := 95) (by decide +kernel), List.mem_of_getElem? (i := 356) (by decide +kernel), List.mem_of_getElem? (i := 357) (by decide +kernel)⟩
theorem lw_p4 : lw_okq (⟨"OneSocket$Reader", "nextIsItemEnd", "()Z"⟩, 7) := ⟨⟨by decide +kernel, by decide +kernel⟩, List.mem_of_getElem? (i := 95) (by decide +kernel), List.mem_of_getElem? (i := 363) (by decide +kernel), List.mem_of_getElem? (i := 364) (by decide +kernel)⟩
theorem lw_p5 : lw_okq (⟨"OneSocket$Reader", "readHoles", "(LOneSocket$Told;)Z"⟩, 7) := ⟨⟨by decide +kernel, by decide +kernel⟩, List.mem_of_getElem? (i := 95) (by decide +kernel), List.mem_of_getElem? (i := 367) (by decide +kernel), List.mem_of_getElem? (i := 368) (by decide +kernel)⟩
theorem lw_p6 : lw_okq (⟨"OneSocket$Reader", "readCall", "(LOneSocket$Told;)Z"⟩, 7) := ⟨⟨by decide +kernel, by decide +kernel⟩, List.mem_of_getElem? (i := 95) (by decide +kernel), List.mem_of_getElem? (i := 371) (by decide +kernel), List.mem_of_getElem? (i := 372) (by decide +kernel)⟩
theorem lw_p7 : lw_okq (⟨"OneSocket$Reader", "readDark", "(LOneSocket$Told;)Z"⟩, 7) := ⟨⟨by decide +kernel, by decide +kernel⟩, List.mem_of_getElem? (i := 95) (by decide +kernel), List.mem_of_getElem? (i := 375) (by decide +kernel), List.mem_of_getElem? (i := 376) (by decide +kernel)⟩
theorem lw_p8 : lw_okq (⟨"OneSocket", "isPhone", "(I)Z"⟩, 15) := ⟨⟨by decide +kernel, by decide +kernel⟩, List.mem_of_getElem? (i := 18) (by decide +kernel), List.mem_of_getElem? (i := 394) (by decide +kernel), List.mem_of_getElem? (i := 395) (by decide +kernel)⟩
theorem lw_p9 : lw_okq (⟨"OneSocket$Planner", "fillTree", "(LOneSocket$Told;IIIII)I"⟩, 7) := ⟨⟨by decide +kernel, by decide +kernel⟩, List.mem_of_getElem? (i := 180) (by decide +kernel), List.mem_of_getElem? (i := 521) (by decide +kernel), List.mem_of_getElem? (i := 522) (by decide +kernel)⟩
theorem lw_p10 : lw_okq (⟨"OneSocket$Planner", "search", "(LOneSocket$Told;III)V"⟩, 7) := ⟨⟨by decide +kernel, by decide +kernel⟩, List.mem_of_getElem? (i := 180) (by decide +kernel), List.mem_of_getElem? (i := 529) (by decide +kernel), List.mem_of_getElem? (i := 530) (by decide +kernel)⟩
theorem lw_p11 : lw_okq (⟨"OneSocket$Planner", "enter", "(III)I"⟩, 7) := ⟨⟨by decide +kernel, by decide +kernel⟩, List.mem_of_getElem? (i := 180) (by decide +kernel), List.mem_of_getElem? (i := 534) (by decide +kernel), List.mem_of_getElem? (i := 535) (by decide +kernel)⟩
theorem lw_p12 : lw_okq (⟨"OneSocket$Planner", "settleOrSearch", "(LOneSocket$Told;IIII)V"⟩, 7) := ⟨⟨by decide +kernel, by decide +kernel⟩, List.mem_of_getElem? (i := 180) (by decide +kernel), List.mem_of_getElem? (i := 538) (by decide +kernel), List.mem_of_getElem? (i := 539) (by decide +kernel)⟩
theorem lw_p13 : lw_okq (⟨"OneSocket", "holdsOut", "(III)Z"⟩, 15) := ⟨⟨by decide +kernel, by decide +kernel⟩, List.mem_of_getElem? (i := 18) (by decide +kernel), List.mem_of_getElem? (i := 564) (by decide +kernel), List.mem_of_getElem? (i := 565) (by decide +kernel)⟩
theorem lw_p14 : lw_okq (⟨"OneSocket", "leadsToWhatWasSeen", "(II)Z"⟩, 15) := ⟨⟨by decide +kernel, by decide +kernel⟩, List.mem_of_getElem? (i := 18) (by decide +kernel), List.mem_of_getElem? (i := 581) (by decide +kernel), List.mem_of_getElem? (i := 582) (by decide +kernel)⟩
theorem lw_p15 : lw_okq (⟨"OneSocket", "waysOfTen", "(IIIII)J"⟩, 15) := ⟨⟨by decide +kernel, by decide +kernel⟩, List.mem_of_getElem? (i := 18) (by decide +kernel), List.mem_of_getElem? (i := 595) (by decide +kernel), List.mem_of_getElem? (i := 596) (by decide +kernel)⟩
def lw_privs_1 : List (MethodName × Nat) := [(⟨"OneSocket$Reader", "next", "()V"⟩, 7), (⟨"OneSocket$Reader", "scanNumber", "()V"⟩, 7), (⟨"OneSocket$Reader", "readPhone", "(LOneSocket$Told;)Z"⟩, 7), (⟨"OneSocket$Reader", "nextIsNumber", "(II)Z"⟩, 7), (⟨"OneSocket$Reader", "nextIsItemEnd", "()Z"⟩, 7), (⟨"OneSocket$Reader", "readHoles", "(LOneSocket$Told;)Z"⟩, 7), (⟨"OneSocket$Reader", "readCall", "(LOneSocket$Told;)Z"⟩, 7), (⟨"OneSocket$Reader", "readDark", "(LOneSocket$Told;)Z"⟩, 7), (⟨"OneSocket", "isPhone", "(I)Z"⟩, 15), (⟨"OneSocket$Planner", "fillTree", "(LOneSocket$Told;IIIII)I"⟩, 7), (⟨"OneSocket$Planner", "search", "(LOneSocket$Told;III)V"⟩, 7), (⟨"OneSocket$Planner", "enter", "(III)I"⟩, 7), (⟨"OneSocket$Planner", "settleOrSearch", "(LOneSocket$Told;IIII)V"⟩, 7), (⟨"OneSocket", "holdsOut", "(III)Z"⟩, 15), (⟨"OneSocket", "leadsToWhatWasSeen", "(II)Z"⟩, 15), (⟨"OneSocket", "waysOfTen", "(IIIII)J"⟩, 15)]
theorem lw_r1 : ∀ q ∈ lw_privs_1, lw_okq q := List.forall_mem_cons.mpr ⟨lw_p0, List.forall_mem_cons.mpr ⟨lw_p1, List.forall_mem_cons.mpr ⟨lw_p2, List.forall_mem_cons.mpr ⟨lw_p3, List.forall_mem_cons.mpr ⟨lw_p4, List.forall_mem_cons.mpr ⟨lw_p5, List.forall_mem_cons.mpr ⟨lw_p6, List.forall_mem_cons.mpr ⟨lw_p7, List.forall_mem_cons.mpr ⟨lw_p8, List.forall_mem_cons.mpr ⟨lw_p9, List.forall_mem_cons.mpr ⟨lw_p10, List.forall_mem_cons.mpr ⟨lw_p11, List.forall_mem_cons.mpr ⟨lw_p12, List.forall_mem_cons.mpr ⟨lw_p13, List.forall_mem_cons.mpr ⟨lw_p14, List.forall_mem_cons.mpr ⟨lw_p15, fun _ h => absurd h List.not_mem_nil⟩⟩⟩⟩⟩⟩⟩⟩⟩⟩⟩⟩⟩⟩⟩⟩
theorem lw_p16 : lw_okq (⟨"OneSocketModel", "advances", "()V"⟩, 37) := ⟨⟨by decide +kernel, by decide +kernel⟩, List.mem_of_getElem? (i := 661) (by decide +kernel), List.mem_of_getElem? (i := 795) (by decide +kernel), List.mem_of_getElem? (i := 796) (by decide +kernel)⟩
theorem lw_p17 : lw_okq (⟨"OneSocketModel", "letterAt", "(I)I"⟩, 37) := ⟨⟨by decide +kernel, by decide +kernel⟩, List.mem_of_getElem? (i := 661) (by decide +kernel), List.mem_of_getElem? (i := 799) (by decide +kernel), List.mem_of_getElem? (i := 800) (by decide +kernel)⟩
theorem lw_p18 : lw_okq (⟨"OneSocketModel", "isWell", "()Z"⟩, 37) := ⟨⟨by decide +kernel, by decide +kernel⟩, List.mem_of_getElem? (i := 661) (by decide +kernel), List.mem_of_getElem? (i := 803) (by decide +kernel), List.mem_of_getElem? (i := 804) (by decide +kernel)⟩
theorem lw_p19 : lw_okq (⟨"OneSocketModel", "mayBegin", "()Z"⟩, 37) := ⟨⟨by decide +kernel, by decide +kernel⟩, List.mem_of_getElem? (i := 661) (by decide +kernel), List.mem_of_getElem? (i := 807) (by decide +kernel), List.mem_of_getElem? (i := 808) (by decide +kernel)⟩
theorem lw_p20 : lw_okq (⟨"OneSocketModel", "takes", "(Z)I"⟩, 37) := ⟨⟨by decide +kernel, by decide +kernel⟩, List.mem_of_getElem? (i := 661) (by decide +kernel), List.mem_of_getElem? (i := 811) (by decide +kernel), List.mem_of_getElem? (i := 812) (by decide +kernel)⟩
theorem lw_p21 : lw_okq (⟨"OneSocketModel", "readsItem", "(I)V"⟩, 37) := ⟨⟨by decide +kernel, by decide +kernel⟩, List.mem_of_getElem? (i := 661) (by decide +kernel), List.mem_of_getElem? (i := 815) (by decide +kernel), List.mem_of_getElem? (i := 816) (by decide +kernel)⟩
theorem lw_p22 : lw_okq (⟨"OneSocketModel", "number", "(II)I"⟩, 37) := ⟨⟨by decide +kernel, by decide +kernel⟩, List.mem_of_getElem? (i := 661) (by decide +kernel), List.mem_of_getElem? (i := 819) (by decide +kernel), List.mem_of_getElem? (i := 820) (by decide +kernel)⟩
theorem lw_p23 : lw_okq (⟨"OneSocketModel", "settles", "()V"⟩, 37) := ⟨⟨by decide +kernel, by decide +kernel⟩, List.mem_of_getElem? (i := 661) (by decide +kernel), List.mem_of_getElem? (i := 823) (by decide +kernel), List.mem_of_getElem? (i := 824) (by decide +kernel)⟩
theorem lw_p24 : lw_okq (⟨"OneSocketModel", "isPhone", "(I)Z"⟩, 37) := ⟨⟨by decide +kernel, by decide +kernel⟩, List.mem_of_getElem? (i := 661) (by decide +kernel), List.mem_of_getElem? (i := 831) (by decide +kernel), List.mem_of_getElem? (i := 832) (by decide +kernel)⟩
theorem lw_p25 : lw_okq (⟨"OneSocketModel", "isDark", "(I)Z"⟩, 37) := ⟨⟨by decide +kernel, by decide +kernel⟩, List.mem_of_getElem? (i := 661) (by decide +kernel), List.mem_of_getElem? (i := 843) (by decide +kernel), List.mem_of_getElem? (i := 844) (by decide +kernel)⟩
theorem lw_p26 : lw_okq (⟨"OneSocketModel", "isSet", "(I)Z"⟩, 37) := ⟨⟨by decide +kernel, by decide +kernel⟩, List.mem_of_getElem? (i := 661) (by decide +kernel), List.mem_of_getElem? (i := 851) (by decide +kernel), List.mem_of_getElem? (i := 852) (by decide +kernel)⟩
theorem lw_p27 : lw_okq (⟨"OneSocketModel", "notes", "()V"⟩, 37) := ⟨⟨by decide +kernel, by decide +kernel⟩, List.mem_of_getElem? (i := 661) (by decide +kernel), List.mem_of_getElem? (i := 858) (by decide +kernel), List.mem_of_getElem? (i := 859) (by decide +kernel)⟩
theorem lw_p28 : lw_okq (⟨"OneSocketModel", "goes", "([I)V"⟩, 37) := ⟨⟨by decide +kernel, by decide +kernel⟩, List.mem_of_getElem? (i := 661) (by decide +kernel), List.mem_of_getElem? (i := 869) (by decide +kernel), List.mem_of_getElem? (i := 870) (by decide +kernel)⟩
theorem lw_p29 : lw_okq (⟨"OneSocketModel", "outOnes", "([I)I"⟩, 37) := ⟨⟨by decide +kernel, by decide +kernel⟩, List.mem_of_getElem? (i := 661) (by decide +kernel), List.mem_of_getElem? (i := 879) (by decide +kernel), List.mem_of_getElem? (i := 880) (by decide +kernel)⟩
theorem lw_p30 : lw_okq (⟨"OneSocketModel", "fair", "()I"⟩, 37) := ⟨⟨by decide +kernel, by decide +kernel⟩, List.mem_of_getElem? (i := 661) (by decide +kernel), List.mem_of_getElem? (i := 895) (by decide +kernel), List.mem_of_getElem? (i := 896) (by decide +kernel)⟩
theorem lw_p31 : lw_okq (⟨"OneSocketModel", "leans", "()I"⟩, 37) := ⟨⟨by decide +kernel, by decide +kernel⟩, List.mem_of_getElem? (i := 661) (by decide +kernel), List.mem_of_getElem? (i := 899) (by decide +kernel), List.mem_of_getElem? (i := 900) (by decide +kernel)⟩
def lw_privs_2 : List (MethodName × Nat) := [(⟨"OneSocketModel", "advances", "()V"⟩, 37), (⟨"OneSocketModel", "letterAt", "(I)I"⟩, 37), (⟨"OneSocketModel", "isWell", "()Z"⟩, 37), (⟨"OneSocketModel", "mayBegin", "()Z"⟩, 37), (⟨"OneSocketModel", "takes", "(Z)I"⟩, 37), (⟨"OneSocketModel", "readsItem", "(I)V"⟩, 37), (⟨"OneSocketModel", "number", "(II)I"⟩, 37), (⟨"OneSocketModel", "settles", "()V"⟩, 37), (⟨"OneSocketModel", "isPhone", "(I)Z"⟩, 37), (⟨"OneSocketModel", "isDark", "(I)Z"⟩, 37), (⟨"OneSocketModel", "isSet", "(I)Z"⟩, 37), (⟨"OneSocketModel", "notes", "()V"⟩, 37), (⟨"OneSocketModel", "goes", "([I)V"⟩, 37), (⟨"OneSocketModel", "outOnes", "([I)I"⟩, 37), (⟨"OneSocketModel", "fair", "()I"⟩, 37), (⟨"OneSocketModel", "leans", "()I"⟩, 37)]
theorem lw_r2 : ∀ q ∈ lw_privs_2, lw_okq q := List.forall_mem_cons.mpr ⟨lw_p16, List.forall_mem_cons.mpr ⟨lw_p17, List.forall_mem_cons.mpr ⟨lw_p18, List.forall_mem_cons.mpr ⟨lw_p19, List.forall_mem_cons.mpr ⟨lw_p20, List.forall_mem_cons.mpr ⟨lw_p21, List.forall_mem_cons.mpr ⟨lw_p22, List.forall_mem_cons.mpr ⟨lw_p23, List.forall_mem_cons.mpr ⟨lw_p24, List.forall_mem_cons.mpr ⟨lw_p25, List.forall_mem_cons.mpr ⟨lw_p26, List.forall_mem_cons.mpr ⟨lw_p27, List.forall_mem_cons.mpr ⟨lw_p28, List.forall_mem_cons.mpr ⟨lw_p29, List.forall_mem_cons.mpr ⟨lw_p30, List.forall_mem_cons.mpr ⟨lw_p31, fun _ h => absurd h List.not_mem_nil⟩⟩⟩⟩⟩⟩⟩⟩⟩⟩⟩⟩⟩⟩⟩⟩
theorem lw_p32 : lw_okq (⟨"OneSocketModel", "plans", "(I)V"⟩, 37) := ⟨⟨by decide +kernel, by decide +kernel⟩, List.mem_of_getElem? (i := 661) (by decide +kernel), List.mem_of_getElem? (i := 907) (by decide +kernel), List.mem_of_getElem? (i := 908) (by decide +kernel)⟩
theorem lw_p33 : lw_okq (⟨"OneSocketModel", "choose", "()V"⟩, 37) := ⟨⟨by decide +kernel, by decide +kernel⟩, List.mem_of_getElem? (i := 661) (by decide +kernel), List.mem_of_getElem? (i := 911) (by decide +kernel), List.mem_of_getElem? (i := 912) (by decide +kernel)⟩
theorem lw_p34 : lw_okq (⟨"OneSocketModel", "tries", "(II)V"⟩, 37) := ⟨⟨by decide +kernel, by decide +kernel⟩, List.mem_of_getElem? (i := 661) (by decide +kernel), List.mem_of_getElem? (i := 918) (by decide +kernel), List.mem_of_getElem? (i := 919) (by decide +kernel)⟩
theorem lw_p35 : lw_okq (⟨"OneSocketModel", "asNow", "()V"⟩, 37) := ⟨⟨by decide +kernel, by decide +kernel⟩, List.mem_of_getElem? (i := 661) (by decide +kernel), List.mem_of_getElem? (i := 922) (by decide +kernel), List.mem_of_getElem? (i := 923) (by decide +kernel)⟩
theorem lw_p36 : lw_okq (⟨"OneSocketModel", "isHeard", "(III)Z"⟩, 37) := ⟨⟨by decide +kernel, by decide +kernel⟩, List.mem_of_getElem? (i := 661) (by decide +kernel), List.mem_of_getElem? (i := 934) (by decide +kernel), List.mem_of_getElem? (i := 935) (by decide +kernel)⟩
theorem lw_p37 : lw_okq (⟨"OneSocketModel", "missedBy", "(II)I"⟩, 37) := ⟨⟨by decide +kernel, by decide +kernel⟩, List.mem_of_getElem? (i := 661) (by decide +kernel), List.mem_of_getElem? (i := 938) (by decide +kernel), List.mem_of_getElem? (i := 939) (by decide +kernel)⟩
theorem lw_p38 : lw_okq (⟨"OneSocketModel", "risen", "(III)I"⟩, 37) := ⟨⟨by decide +kernel, by decide +kernel⟩, List.mem_of_getElem? (i := 661) (by decide +kernel), List.mem_of_getElem? (i := 954) (by decide +kernel), List.mem_of_getElem? (i := 955) (by decide +kernel)⟩
theorem lw_p39 : lw_okq (⟨"OneSocketModel", "spreads", "(II)V"⟩, 37) := ⟨⟨by decide +kernel, by decide +kernel⟩, List.mem_of_getElem? (i := 661) (by decide +kernel), List.mem_of_getElem? (i := 967) (by decide +kernel), List.mem_of_getElem? (i := 968) (by decide +kernel)⟩
def lw_privs_3 : List (MethodName × Nat) := [(⟨"OneSocketModel", "plans", "(I)V"⟩, 37), (⟨"OneSocketModel", "choose", "()V"⟩, 37), (⟨"OneSocketModel", "tries", "(II)V"⟩, 37), (⟨"OneSocketModel", "asNow", "()V"⟩, 37), (⟨"OneSocketModel", "isHeard", "(III)Z"⟩, 37), (⟨"OneSocketModel", "missedBy", "(II)I"⟩, 37), (⟨"OneSocketModel", "risen", "(III)I"⟩, 37), (⟨"OneSocketModel", "spreads", "(II)V"⟩, 37)]
theorem lw_r3 : ∀ q ∈ lw_privs_3, lw_okq q := List.forall_mem_cons.mpr ⟨lw_p32, List.forall_mem_cons.mpr ⟨lw_p33, List.forall_mem_cons.mpr ⟨lw_p34, List.forall_mem_cons.mpr ⟨lw_p35, List.forall_mem_cons.mpr ⟨lw_p36, List.forall_mem_cons.mpr ⟨lw_p37, List.forall_mem_cons.mpr ⟨lw_p38, List.forall_mem_cons.mpr ⟨lw_p39, fun _ h => absurd h List.not_mem_nil⟩⟩⟩⟩⟩⟩⟩⟩
def lw_privs : List (MethodName × Nat) := lw_privs_1 ++ (lw_privs_2 ++ (lw_privs_3))
def lw_tbl : List Cond := k2_sels lw_privs ++ tables_1
theorem lw_privs_ok : ∀ q ∈ lw_privs, lw_okq q := by
  show ∀ q ∈ lw_privs_1 ++ (lw_privs_2 ++ (lw_privs_3)), lw_okq q
  exact List.forall_mem_append.mpr ⟨lw_r1, List.forall_mem_append.mpr ⟨lw_r2, lw_r3⟩⟩
end
section
def RX0 : String := "OneSocket$Alarm"
def TX0 : u_T := fun k => match k with
  | _ => ("", "", "", false)
def tyX0 : Nat → FieldType := fun k => match k with
  | _ => .int
abbrev wsX00 : List Cond := u_ws RX0 TX0 0
theorem nmX0 : ∀ a, a < 0 → ∀ b, b < 0 → a ≠ b → (TX0 a).2.1 ≠ (TX0 b).2.1 := by decide +kernel
theorem tyX0_ok : ∀ k, k < 0 → parseFieldDescriptor (TX0 k).2.2.1 = some (tyX0 k) := by decide +kernel
abbrev cX0_init : ByteArray := prog_2_method_1_code
def yX0_init : MethodName := ⟨RX0, "<init>", "()V"⟩
abbrev cX0_worth : ByteArray := prog_2_method_2_code
def yX0_worth : MethodName := ⟨RX0, "worth", "(LOneSocket;I)I"⟩
def RX1 : String := "OneSocket$BabyPhone"
def TX1 : u_T := fun k => match k with
  | _ => ("", "", "", false)
def tyX1 : Nat → FieldType := fun k => match k with
  | _ => .int
abbrev wsX10 : List Cond := u_ws RX1 TX1 0
theorem nmX1 : ∀ a, a < 0 → ∀ b, b < 0 → a ≠ b → (TX1 a).2.1 ≠ (TX1 b).2.1 := by decide +kernel
theorem tyX1_ok : ∀ k, k < 0 → parseFieldDescriptor (TX1 k).2.2.1 = some (tyX1 k) := by decide +kernel
abbrev cX1_init : ByteArray := prog_3_method_1_code
def yX1_init : MethodName := ⟨RX1, "<init>", "()V"⟩
abbrev cX1_worth : ByteArray := prog_3_method_2_code
def yX1_worth : MethodName := ⟨RX1, "worth", "(LOneSocket;I)I"⟩
def RX2 : String := "OneSocket$Book"
def TX2 : u_T := fun k => match k with
  | 0 => ("OneSocket$Book", "rows", "[[I", true)
  | 1 => ("OneSocket$Book", "newest", "I", false)
  | _ => ("OneSocket$Book", "pages", "I", false)
def tyX2 : Nat → FieldType := fun k => match k with
  | 0 => .array (.array .int)
  | 1 => .int
  | _ => .int
abbrev wsX20 : List Cond := u_ws RX2 TX2 3
theorem nmX2 : ∀ a, a < 3 → ∀ b, b < 3 → a ≠ b → (TX2 a).2.1 ≠ (TX2 b).2.1 := by decide +kernel
theorem tyX2_ok : ∀ k, k < 3 → parseFieldDescriptor (TX2 k).2.2.1 = some (tyX2 k) := by decide +kernel
abbrev cX2_init : ByteArray := prog_4_method_1_code
def yX2_init : MethodName := ⟨RX2, "<init>", "()V"⟩
abbrev cX2_write : ByteArray := prog_4_method_2_code
def yX2_write : MethodName := ⟨RX2, "write", "(LOneSocket$Now;)V"⟩
abbrev cX2_takeBack : ByteArray := prog_4_method_3_code
def yX2_takeBack : MethodName := ⟨RX2, "takeBack", "(LOneSocket$Now;)V"⟩
def RX3 : String := "OneSocket$Lamp"
def TX3 : u_T := fun k => match k with
  | _ => ("", "", "", false)
def tyX3 : Nat → FieldType := fun k => match k with
  | _ => .int
abbrev wsX30 : List Cond := u_ws RX3 TX3 0
theorem nmX3 : ∀ a, a < 0 → ∀ b, b < 0 → a ≠ b → (TX3 a).2.1 ≠ (TX3 b).2.1 := by decide +kernel
theorem tyX3_ok : ∀ k, k < 0 → parseFieldDescriptor (TX3 k).2.2.1 = some (tyX3 k) := by decide +kernel
abbrev cX3_init : ByteArray := prog_5_method_1_code
def yX3_init : MethodName := ⟨RX3, "<init>", "()V"⟩
abbrev cX3_worth : ByteArray := prog_5_method_2_code
def yX3_worth : MethodName := ⟨RX3, "worth", "(LOneSocket;I)I"⟩
def RX4 : String := "OneSocket$Now"
def TX4 : u_T := fun k => match k with
  | 0 => ("OneSocket$Now", "turn", "I", false)
  | 1 => ("OneSocket$Now", "on", "I", false)
  | 2 => ("OneSocket$Now", "gotUp", "I", false)
  | 3 => ("OneSocket$Now", "missed", "I", false)
  | 4 => ("OneSocket$Now", "level", "[I", true)
  | _ => ("OneSocket$Now", "turnsOn", "[I", true)
def tyX4 : Nat → FieldType := fun k => match k with
  | 0 => .int
  | 1 => .int
  | 2 => .int
  | 3 => .int
  | 4 => .array .int
  | _ => .array .int
abbrev wsX40 : List Cond := u_ws RX4 TX4 6
theorem nmX4 : ∀ a, a < 6 → ∀ b, b < 6 → a ≠ b → (TX4 a).2.1 ≠ (TX4 b).2.1 := by decide +kernel
theorem tyX4_ok : ∀ k, k < 6 → parseFieldDescriptor (TX4 k).2.2.1 = some (tyX4 k) := by decide +kernel
abbrev cX4_init : ByteArray := prog_6_method_1_code
def yX4_init : MethodName := ⟨RX4, "<init>", "()V"⟩
abbrev cX4_begin : ByteArray := prog_6_method_2_code
def yX4_begin : MethodName := ⟨RX4, "begin", "(LOneSocket$Told;)V"⟩
abbrev cX4_isOn : ByteArray := prog_6_method_3_code
def yX4_isOn : MethodName := ⟨RX4, "isOn", "(I)Z"⟩
abbrev cX4_goOn : ByteArray := prog_6_method_4_code
def yX4_goOn : MethodName := ⟨RX4, "goOn", "(LOneSocket$Told;)V"⟩
abbrev cX4_out : ByteArray := prog_6_method_5_code
def yX4_out : MethodName := ⟨RX4, "out", "(I)I"⟩
abbrev cX4_fair : ByteArray := prog_6_method_6_code
def yX4_fair : MethodName := ⟨RX4, "fair", "(I)I"⟩
abbrev cX4_leans : ByteArray := prog_6_method_7_code
def yX4_leans : MethodName := ⟨RX4, "leans", "(I)I"⟩
abbrev cX4_copyTo : ByteArray := prog_6_method_8_code
def yX4_copyTo : MethodName := ⟨RX4, "copyTo", "([I)V"⟩
abbrev cX4_copyFrom : ByteArray := prog_6_method_9_code
def yX4_copyFrom : MethodName := ⟨RX4, "copyFrom", "([I)V"⟩
def RX5 : String := "OneSocket$Planner"
def TX5 : u_T := fun k => match k with
  | 0 => ("OneSocket$Planner", "best", "[I", true)
  | 1 => ("OneSocket$Planner", "row", "[I", true)
  | 2 => ("OneSocket$Planner", "least", "[[I", true)
  | 3 => ("OneSocket$Planner", "node", "[[I", true)
  | 4 => ("OneSocket$Planner", "bestCost", "I", false)
  | 5 => ("OneSocket$Planner", "turns", "I", false)
  | _ => ("OneSocket$Planner", "firstTurn", "I", false)
def tyX5 : Nat → FieldType := fun k => match k with
  | 0 => .array .int
  | 1 => .array .int
  | 2 => .array (.array .int)
  | 3 => .array (.array .int)
  | 4 => .int
  | 5 => .int
  | _ => .int
abbrev wsX50 : List Cond := u_ws RX5 TX5 7
theorem nmX5 : ∀ a, a < 7 → ∀ b, b < 7 → a ≠ b → (TX5 a).2.1 ≠ (TX5 b).2.1 := by decide +kernel
theorem tyX5_ok : ∀ k, k < 7 → parseFieldDescriptor (TX5 k).2.2.1 = some (tyX5 k) := by decide +kernel
abbrev cX5_init : ByteArray := prog_7_method_1_code
def yX5_init : MethodName := ⟨RX5, "<init>", "()V"⟩
abbrev cX5_missed : ByteArray := prog_7_method_2_code
def yX5_missed : MethodName := ⟨RX5, "missed", "()I"⟩
abbrev cX5_out : ByteArray := prog_7_method_3_code
def yX5_out : MethodName := ⟨RX5, "out", "()I"⟩
abbrev cX5_gotUp : ByteArray := prog_7_method_4_code
def yX5_gotUp : MethodName := ⟨RX5, "gotUp", "()I"⟩
abbrev cX5_make : ByteArray := prog_7_method_5_code
def yX5_make : MethodName := ⟨RX5, "make", "(LOneSocket$Told;LOneSocket$Now;I)V"⟩
abbrev cX5_fillTree : ByteArray := prog_7_method_6_code
def yX5_fillTree : MethodName := ⟨RX5, "fillTree", "(LOneSocket$Told;IIIII)I"⟩
abbrev cX5_search : ByteArray := prog_7_method_7_code
def yX5_search : MethodName := ⟨RX5, "search", "(LOneSocket$Told;III)V"⟩
abbrev cX5_settleOrSearch : ByteArray := prog_7_method_8_code
def yX5_settleOrSearch : MethodName := ⟨RX5, "settleOrSearch", "(LOneSocket$Told;IIII)V"⟩
abbrev cX5_enter : ByteArray := prog_7_method_9_code
def yX5_enter : MethodName := ⟨RX5, "enter", "(III)I"⟩
def RX6 : String := "OneSocket$Radio"
def TX6 : u_T := fun k => match k with
  | _ => ("", "", "", false)
def tyX6 : Nat → FieldType := fun k => match k with
  | _ => .int
abbrev wsX60 : List Cond := u_ws RX6 TX6 0
theorem nmX6 : ∀ a, a < 0 → ∀ b, b < 0 → a ≠ b → (TX6 a).2.1 ≠ (TX6 b).2.1 := by decide +kernel
theorem tyX6_ok : ∀ k, k < 0 → parseFieldDescriptor (TX6 k).2.2.1 = some (tyX6 k) := by decide +kernel
abbrev cX6_init : ByteArray := prog_8_method_1_code
def yX6_init : MethodName := ⟨RX6, "<init>", "()V"⟩
abbrev cX6_worth : ByteArray := prog_8_method_2_code
def yX6_worth : MethodName := ⟨RX6, "worth", "(LOneSocket;I)I"⟩
def RX7 : String := "OneSocket$Reader"
def TX7 : u_T := fun k => match k with
  | 0 => ("OneSocket$Reader", "letters", "[I", true)
  | 1 => ("OneSocket$Reader", "length", "I", false)
  | 2 => ("OneSocket$Reader", "tokenPlace", "I", false)
  | 3 => ("OneSocket$Reader", "place", "I", false)
  | 4 => ("OneSocket$Reader", "token", "I", false)
  | 5 => ("OneSocket$Reader", "value", "I", false)
  | _ => ("OneSocket$Reader", "holesTold", "Z", false)
def tyX7 : Nat → FieldType := fun k => match k with
  | 0 => .array .int
  | 1 => .int
  | 2 => .int
  | 3 => .int
  | 4 => .int
  | 5 => .int
  | _ => .boolean
abbrev wsX70 : List Cond := u_ws RX7 TX7 7
theorem nmX7 : ∀ a, a < 7 → ∀ b, b < 7 → a ≠ b → (TX7 a).2.1 ≠ (TX7 b).2.1 := by decide +kernel
theorem tyX7_ok : ∀ k, k < 7 → parseFieldDescriptor (TX7 k).2.2.1 = some (tyX7 k) := by decide +kernel
abbrev cX7_init : ByteArray := prog_9_method_1_code
def yX7_init : MethodName := ⟨RX7, "<init>", "()V"⟩
abbrev cX7_add : ByteArray := prog_9_method_2_code
def yX7_add : MethodName := ⟨RX7, "add", "(I)Z"⟩
abbrev cX7_readInto : ByteArray := prog_9_method_3_code
def yX7_readInto : MethodName := ⟨RX7, "readInto", "(LOneSocket$Told;)I"⟩
abbrev cX7_readPhone : ByteArray := prog_9_method_4_code
def yX7_readPhone : MethodName := ⟨RX7, "readPhone", "(LOneSocket$Told;)Z"⟩
abbrev cX7_readHoles : ByteArray := prog_9_method_5_code
def yX7_readHoles : MethodName := ⟨RX7, "readHoles", "(LOneSocket$Told;)Z"⟩
abbrev cX7_readCall : ByteArray := prog_9_method_6_code
def yX7_readCall : MethodName := ⟨RX7, "readCall", "(LOneSocket$Told;)Z"⟩
abbrev cX7_readDark : ByteArray := prog_9_method_7_code
def yX7_readDark : MethodName := ⟨RX7, "readDark", "(LOneSocket$Told;)Z"⟩
abbrev cX7_nextIsNumber : ByteArray := prog_9_method_8_code
def yX7_nextIsNumber : MethodName := ⟨RX7, "nextIsNumber", "(II)Z"⟩
abbrev cX7_nextIsItemEnd : ByteArray := prog_9_method_9_code
def yX7_nextIsItemEnd : MethodName := ⟨RX7, "nextIsItemEnd", "()Z"⟩
abbrev cX7_next : ByteArray := prog_9_method_10_code
def yX7_next : MethodName := ⟨RX7, "next", "()V"⟩
abbrev cX7_scanNumber : ByteArray := prog_9_method_11_code
def yX7_scanNumber : MethodName := ⟨RX7, "scanNumber", "()V"⟩
abbrev cX7_isDigit : ByteArray := prog_9_method_12_code
def yX7_isDigit : MethodName := ⟨RX7, "isDigit", "(I)Z"⟩
abbrev cX7_isSign : ByteArray := prog_9_method_13_code
def yX7_isSign : MethodName := ⟨RX7, "isSign", "(I)Z"⟩
def RX8 : String := "OneSocket$SixthOne"
def TX8 : u_T := fun k => match k with
  | _ => ("", "", "", false)
def tyX8 : Nat → FieldType := fun k => match k with
  | _ => .int
abbrev wsX80 : List Cond := u_ws RX8 TX8 0
theorem nmX8 : ∀ a, a < 0 → ∀ b, b < 0 → a ≠ b → (TX8 a).2.1 ≠ (TX8 b).2.1 := by decide +kernel
theorem tyX8_ok : ∀ k, k < 0 → parseFieldDescriptor (TX8 k).2.2.1 = some (tyX8 k) := by decide +kernel
abbrev cX8_init : ByteArray := prog_10_method_1_code
def yX8_init : MethodName := ⟨RX8, "<init>", "()V"⟩
abbrev cX8_worth : ByteArray := prog_10_method_2_code
def yX8_worth : MethodName := ⟨RX8, "worth", "(LOneSocket;I)I"⟩
def RX9 : String := "OneSocket$Telephone"
def TX9 : u_T := fun k => match k with
  | _ => ("", "", "", false)
def tyX9 : Nat → FieldType := fun k => match k with
  | _ => .int
abbrev wsX90 : List Cond := u_ws RX9 TX9 0
theorem nmX9 : ∀ a, a < 0 → ∀ b, b < 0 → a ≠ b → (TX9 a).2.1 ≠ (TX9 b).2.1 := by decide +kernel
theorem tyX9_ok : ∀ k, k < 0 → parseFieldDescriptor (TX9 k).2.2.1 = some (tyX9 k) := by decide +kernel
abbrev cX9_init : ByteArray := prog_11_method_1_code
def yX9_init : MethodName := ⟨RX9, "<init>", "()V"⟩
abbrev cX9_worth : ByteArray := prog_11_method_2_code
def yX9_worth : MethodName := ⟨RX9, "worth", "(LOneSocket;I)I"⟩
def RX10 : String := "OneSocket$Told"
def TX10 : u_T := fun k => match k with
  | 0 => ("OneSocket$Told", "phones", "I", false)
  | 1 => ("OneSocket$Told", "holes", "I", false)
  | 2 => ("OneSocket$Told", "calls", "I", false)
  | 3 => ("OneSocket$Told", "darks", "I", false)
  | 4 => ("OneSocket$Told", "level", "[I", true)
  | 5 => ("OneSocket$Told", "fills", "[I", true)
  | 6 => ("OneSocket$Told", "runs", "[I", true)
  | 7 => ("OneSocket$Told", "callPhone", "[I", true)
  | 8 => ("OneSocket$Told", "callTurn", "[I", true)
  | 9 => ("OneSocket$Told", "callNeeds", "[I", true)
  | 10 => ("OneSocket$Told", "darkFrom", "[I", true)
  | _ => ("OneSocket$Told", "darkTo", "[I", true)
def tyX10 : Nat → FieldType := fun k => match k with
  | 0 => .int
  | 1 => .int
  | 2 => .int
  | 3 => .int
  | 4 => .array .int
  | 5 => .array .int
  | 6 => .array .int
  | 7 => .array .int
  | 8 => .array .int
  | 9 => .array .int
  | 10 => .array .int
  | _ => .array .int
abbrev wsX100 : List Cond := u_ws RX10 TX10 12
theorem nmX10 : ∀ a, a < 12 → ∀ b, b < 12 → a ≠ b → (TX10 a).2.1 ≠ (TX10 b).2.1 := by decide +kernel
theorem tyX10_ok : ∀ k, k < 12 → parseFieldDescriptor (TX10 k).2.2.1 = some (tyX10 k) := by decide +kernel
abbrev cX10_init : ByteArray := prog_12_method_1_code
def yX10_init : MethodName := ⟨RX10, "<init>", "()V"⟩
abbrev cX10_empty : ByteArray := prog_12_method_2_code
def yX10_empty : MethodName := ⟨RX10, "empty", "()V"⟩
abbrev cX10_take : ByteArray := prog_12_method_3_code
def yX10_take : MethodName := ⟨RX10, "take", "(LOneSocket$Told;)V"⟩
abbrev cX10_canBeOn : ByteArray := prog_12_method_4_code
def yX10_canBeOn : MethodName := ⟨RX10, "canBeOn", "(I)Z"⟩
abbrev cX10_isDark : ByteArray := prog_12_method_5_code
def yX10_isDark : MethodName := ⟨RX10, "isDark", "(I)Z"⟩
abbrev cX10_isCallOf : ByteArray := prog_12_method_6_code
def yX10_isCallOf : MethodName := ⟨RX10, "isCallOf", "(III)Z"⟩
abbrev cX10_callsOf : ByteArray := prog_12_method_7_code
def yX10_callsOf : MethodName := ⟨RX10, "callsOf", "(I)I"⟩
abbrev cX10_missedAt : ByteArray := prog_12_method_8_code
def yX10_missedAt : MethodName := ⟨RX10, "missedAt", "(III)I"⟩
abbrev cX10_leftByCalls : ByteArray := prog_12_method_9_code
def yX10_leftByCalls : MethodName := ⟨RX10, "leftByCalls", "(III)I"⟩
abbrev cX10_filled : ByteArray := prog_12_method_10_code
def yX10_filled : MethodName := ⟨RX10, "filled", "(II)I"⟩
abbrev cX10_drained : ByteArray := prog_12_method_11_code
def yX10_drained : MethodName := ⟨RX10, "drained", "(II)I"⟩
abbrev cX10_levelBehind : ByteArray := prog_12_method_12_code
def yX10_levelBehind : MethodName := ⟨RX10, "levelBehind", "(IIIZ)I"⟩
def RX11 : String := "OneSocket"
def TX11 : u_T := fun k => match k with
  | 0 => ("OneSocket", "told", "LOneSocket$Told;", true)
  | 1 => ("OneSocket", "draft", "LOneSocket$Told;", true)
  | 2 => ("OneSocket", "text", "LOneSocket$Reader;", true)
  | 3 => ("OneSocket", "state", "LOneSocket$Now;", true)
  | 4 => ("OneSocket", "book", "LOneSocket$Book;", true)
  | 5 => ("OneSocket", "planner", "LOneSocket$Planner;", true)
  | 6 => ("OneSocket", "kinds", "[LOneSocket$Telephone;", true)
  | 7 => ("OneSocket", "images", "[[I", true)
  | 8 => ("OneSocket", "kept", "[Z", true)
  | 9 => ("OneSocket", "saidPhone", "[I", true)
  | 10 => ("OneSocket", "saidFirst", "[I", true)
  | 11 => ("OneSocket", "saidTurns", "[I", true)
  | 12 => ("OneSocket", "saidThen", "[I", true)
  | 13 => ("OneSocket", "lines", "I", false)
  | _ => ("OneSocket", "traced", "J", false)
def tyX11 : Nat → FieldType := fun k => match k with
  | 0 => .object "OneSocket$Told"
  | 1 => .object "OneSocket$Told"
  | 2 => .object "OneSocket$Reader"
  | 3 => .object "OneSocket$Now"
  | 4 => .object "OneSocket$Book"
  | 5 => .object "OneSocket$Planner"
  | 6 => .array (.object "OneSocket$Telephone")
  | 7 => .array (.array .int)
  | 8 => .array .boolean
  | 9 => .array .int
  | 10 => .array .int
  | 11 => .array .int
  | 12 => .array .int
  | 13 => .int
  | _ => .long
abbrev wsX110 : List Cond := u_ws RX11 TX11 15
theorem nmX11 : ∀ a, a < 15 → ∀ b, b < 15 → a ≠ b → (TX11 a).2.1 ≠ (TX11 b).2.1 := by decide +kernel
theorem tyX11_ok : ∀ k, k < 15 → parseFieldDescriptor (TX11 k).2.2.1 = some (tyX11 k) := by decide +kernel
abbrev cX11_init : ByteArray := prog_1_method_1_code
def yX11_init : MethodName := ⟨RX11, "<init>", "()V"⟩
abbrev cX11_type : ByteArray := prog_1_method_2_code
def yX11_type : MethodName := ⟨RX11, "type", "(I)I"⟩
abbrev cX11_clear : ByteArray := prog_1_method_3_code
def yX11_clear : MethodName := ⟨RX11, "clear", "()I"⟩
abbrev cX11_room : ByteArray := prog_1_method_4_code
def yX11_room : MethodName := ⟨RX11, "room", "()I"⟩
abbrev cX11_phone : ByteArray := prog_1_method_5_code
def yX11_phone : MethodName := ⟨RX11, "phone", "(II)I"⟩
abbrev cX11_call : ByteArray := prog_1_method_6_code
def yX11_call : MethodName := ⟨RX11, "call", "(II)I"⟩
abbrev cX11_dark : ByteArray := prog_1_method_7_code
def yX11_dark : MethodName := ⟨RX11, "dark", "(I)I"⟩
abbrev cX11_puts : ByteArray := prog_1_method_8_code
def yX11_puts : MethodName := ⟨RX11, "puts", "(I)I"⟩
abbrev cX11_turn : ByteArray := prog_1_method_9_code
def yX11_turn : MethodName := ⟨RX11, "turn", "()I"⟩
abbrev cX11_lends : ByteArray := prog_1_method_10_code
def yX11_lends : MethodName := ⟨RX11, "lends", "(II)I"⟩
abbrev cX11_undo : ByteArray := prog_1_method_11_code
def yX11_undo : MethodName := ⟨RX11, "undo", "()I"⟩
abbrev cX11_now : ByteArray := prog_1_method_12_code
def yX11_now : MethodName := ⟨RX11, "now", "(I)I"⟩
abbrev cX11_plan : ByteArray := prog_1_method_13_code
def yX11_plan : MethodName := ⟨RX11, "plan", "(II)I"⟩
abbrev cX11_fullBy : ByteArray := prog_1_method_14_code
def yX11_fullBy : MethodName := ⟨RX11, "fullBy", "(II)I"⟩
abbrev cX11_latest : ByteArray := prog_1_method_15_code
def yX11_latest : MethodName := ⟨RX11, "latest", "(II)I"⟩
abbrev cX11_holdsOut : ByteArray := prog_1_method_16_code
def yX11_holdsOut : MethodName := ⟨RX11, "holdsOut", "(III)Z"⟩
abbrev cX11_says : ByteArray := prog_1_method_17_code
def yX11_says : MethodName := ⟨RX11, "says", "(IIII)I"⟩
abbrev cX11_forget : ByteArray := prog_1_method_18_code
def yX11_forget : MethodName := ⟨RX11, "forget", "()I"⟩
abbrev cX11_could : ByteArray := prog_1_method_19_code
def yX11_could : MethodName := ⟨RX11, "could", "(II)I"⟩
abbrev cX11_liars : ByteArray := prog_1_method_20_code
def yX11_liars : MethodName := ⟨RX11, "liars", "()I"⟩
abbrev cX11_leadsToWhatWasSeen : ByteArray := prog_1_method_21_code
def yX11_leadsToWhatWasSeen : MethodName := ⟨RX11, "leadsToWhatWasSeen", "(II)Z"⟩
abbrev cX11_odds : ByteArray := prog_1_method_22_code
def yX11_odds : MethodName := ⟨RX11, "odds", "(IIIII)J"⟩
abbrev cX11_waysOfTen : ByteArray := prog_1_method_23_code
def yX11_waysOfTen : MethodName := ⟨RX11, "waysOfTen", "(IIIII)J"⟩
abbrev cX11_greatestDivisor : ByteArray := prog_1_method_24_code
def yX11_greatestDivisor : MethodName := ⟨RX11, "greatestDivisor", "(JJ)J"⟩
abbrev cX11_rate : ByteArray := prog_1_method_25_code
def yX11_rate : MethodName := ⟨RX11, "rate", "(II)I"⟩
abbrev cX11_keep : ByteArray := prog_1_method_26_code
def yX11_keep : MethodName := ⟨RX11, "keep", "(I)I"⟩
abbrev cX11_back : ByteArray := prog_1_method_27_code
def yX11_back : MethodName := ⟨RX11, "back", "(I)I"⟩
abbrev cX11_count : ByteArray := prog_1_method_28_code
def yX11_count : MethodName := ⟨RX11, "count", "(I)I"⟩
abbrev cX11_trace : ByteArray := prog_1_method_29_code
def yX11_trace : MethodName := ⟨RX11, "trace", "()J"⟩
abbrev cX11_isPhone : ByteArray := prog_1_method_30_code
def yX11_isPhone : MethodName := ⟨RX11, "isPhone", "(I)Z"⟩
abbrev cX11_isWithin : ByteArray := prog_1_method_31_code
def yX11_isWithin : MethodName := ⟨RX11, "isWithin", "(III)Z"⟩
def RX12 : String := "OneSocketModel"
def TX12 : u_T := fun k => match k with
  | 0 => ("OneSocketModel", "thrown", "I", false)
  | 1 => ("OneSocketModel", "trace", "J", false)
  | 2 => ("OneSocketModel", "text", "[I", true)
  | 3 => ("OneSocketModel", "typed", "I", false)
  | 4 => ("OneSocketModel", "next", "I", false)
  | 5 => ("OneSocketModel", "token", "I", false)
  | 6 => ("OneSocketModel", "place", "I", false)
  | 7 => ("OneSocketModel", "value", "I", false)
  | 8 => ("OneSocketModel", "fault", "I", false)
  | 9 => ("OneSocketModel", "phones", "[I", true)
  | 10 => ("OneSocketModel", "calls", "[I", true)
  | 11 => ("OneSocketModel", "darks", "[I", true)
  | 12 => ("OneSocketModel", "many", "I", false)
  | 13 => ("OneSocketModel", "callMany", "I", false)
  | 14 => ("OneSocketModel", "darkMany", "I", false)
  | 15 => ("OneSocketModel", "holes", "I", false)
  | 16 => ("OneSocketModel", "draftMany", "I", false)
  | 17 => ("OneSocketModel", "draftCalls", "I", false)
  | 18 => ("OneSocketModel", "draftDarks", "I", false)
  | 19 => ("OneSocketModel", "draftHoles", "I", false)
  | 20 => ("OneSocketModel", "s", "[I", true)
  | 21 => ("OneSocketModel", "w", "[I", true)
  | 22 => ("OneSocketModel", "kept", "[I", true)
  | 23 => ("OneSocketModel", "isKept", "[Z", true)
  | 24 => ("OneSocketModel", "undos", "[I", true)
  | 25 => ("OneSocketModel", "undoMany", "I", false)
  | 26 => ("OneSocketModel", "said", "[I", true)
  | 27 => ("OneSocketModel", "saidMany", "I", false)
  | 28 => ("OneSocketModel", "row", "[I", true)
  | 29 => ("OneSocketModel", "best", "[I", true)
  | 30 => ("OneSocketModel", "likely", "[J", true)
  | 31 => ("OneSocketModel", "then", "[J", true)
  | 32 => ("OneSocketModel", "choices", "[I", true)
  | 33 => ("OneSocketModel", "choiceMany", "I", false)
  | 34 => ("OneSocketModel", "bestMissed", "I", false)
  | 35 => ("OneSocketModel", "bestOut", "I", false)
  | _ => ("OneSocketModel", "bestUp", "I", false)
def tyX12 : Nat → FieldType := fun k => match k with
  | 0 => .int
  | 1 => .long
  | 2 => .array .int
  | 3 => .int
  | 4 => .int
  | 5 => .int
  | 6 => .int
  | 7 => .int
  | 8 => .int
  | 9 => .array .int
  | 10 => .array .int
  | 11 => .array .int
  | 12 => .int
  | 13 => .int
  | 14 => .int
  | 15 => .int
  | 16 => .int
  | 17 => .int
  | 18 => .int
  | 19 => .int
  | 20 => .array .int
  | 21 => .array .int
  | 22 => .array .int
  | 23 => .array .boolean
  | 24 => .array .int
  | 25 => .int
  | 26 => .array .int
  | 27 => .int
  | 28 => .array .int
  | 29 => .array .int
  | 30 => .array .long
  | 31 => .array .long
  | 32 => .array .int
  | 33 => .int
  | 34 => .int
  | 35 => .int
  | _ => .int
abbrev wsX120 : List Cond := u_ws RX12 TX12 37
theorem nmX12 : ∀ a, a < 37 → ∀ b, b < 37 → a ≠ b → (TX12 a).2.1 ≠ (TX12 b).2.1 := by decide +kernel
theorem tyX12_ok : ∀ k, k < 37 → parseFieldDescriptor (TX12 k).2.2.1 = some (tyX12 k) := by decide +kernel
abbrev cX12_init : ByteArray := prog_14_method_1_code
def yX12_init : MethodName := ⟨RX12, "<init>", "()V"⟩
abbrev cX12_in : ByteArray := prog_14_method_3_code
def yX12_in : MethodName := ⟨RX12, "in", "(III)Z"⟩
abbrev cX12_ones : ByteArray := prog_14_method_4_code
def yX12_ones : MethodName := ⟨RX12, "ones", "(I)I"⟩
abbrev cX12_type : ByteArray := prog_14_method_5_code
def yX12_type : MethodName := ⟨RX12, "type", "(I)I"⟩
abbrev cX12_clear : ByteArray := prog_14_method_6_code
def yX12_clear : MethodName := ⟨RX12, "clear", "()I"⟩
abbrev cX12_letterAt : ByteArray := prog_14_method_7_code
def yX12_letterAt : MethodName := ⟨RX12, "letterAt", "(I)I"⟩
abbrev cX12_advances : ByteArray := prog_14_method_8_code
def yX12_advances : MethodName := ⟨RX12, "advances", "()V"⟩
abbrev cX12_isWell : ByteArray := prog_14_method_9_code
def yX12_isWell : MethodName := ⟨RX12, "isWell", "()Z"⟩
abbrev cX12_takes : ByteArray := prog_14_method_10_code
def yX12_takes : MethodName := ⟨RX12, "takes", "(Z)I"⟩
abbrev cX12_number : ByteArray := prog_14_method_11_code
def yX12_number : MethodName := ⟨RX12, "number", "(II)I"⟩
abbrev cX12_mayBegin : ByteArray := prog_14_method_12_code
def yX12_mayBegin : MethodName := ⟨RX12, "mayBegin", "()Z"⟩
abbrev cX12_readsItem : ByteArray := prog_14_method_13_code
def yX12_readsItem : MethodName := ⟨RX12, "readsItem", "(I)V"⟩
abbrev cX12_room : ByteArray := prog_14_method_14_code
def yX12_room : MethodName := ⟨RX12, "room", "()I"⟩
abbrev cX12_settles : ByteArray := prog_14_method_15_code
def yX12_settles : MethodName := ⟨RX12, "settles", "()V"⟩
abbrev cX12_isPhone : ByteArray := prog_14_method_16_code
def yX12_isPhone : MethodName := ⟨RX12, "isPhone", "(I)Z"⟩
abbrev cX12_phone : ByteArray := prog_14_method_17_code
def yX12_phone : MethodName := ⟨RX12, "phone", "(II)I"⟩
abbrev cX12_call : ByteArray := prog_14_method_18_code
def yX12_call : MethodName := ⟨RX12, "call", "(II)I"⟩
abbrev cX12_isDark : ByteArray := prog_14_method_19_code
def yX12_isDark : MethodName := ⟨RX12, "isDark", "(I)Z"⟩
abbrev cX12_dark : ByteArray := prog_14_method_20_code
def yX12_dark : MethodName := ⟨RX12, "dark", "(I)I"⟩
abbrev cX12_filled : ByteArray := prog_14_method_21_code
def yX12_filled : MethodName := ⟨RX12, "filled", "(II)I"⟩
abbrev cX12_lower : ByteArray := prog_14_method_22_code
def yX12_lower : MethodName := ⟨RX12, "lower", "(II)I"⟩
abbrev cX12_goes : ByteArray := prog_14_method_23_code
def yX12_goes : MethodName := ⟨RX12, "goes", "([I)V"⟩
abbrev cX12_notes : ByteArray := prog_14_method_24_code
def yX12_notes : MethodName := ⟨RX12, "notes", "()V"⟩
abbrev cX12_sets : ByteArray := prog_14_method_25_code
def yX12_sets : MethodName := ⟨RX12, "sets", "([II)V"⟩
abbrev cX12_isSet : ByteArray := prog_14_method_26_code
def yX12_isSet : MethodName := ⟨RX12, "isSet", "(I)Z"⟩
abbrev cX12_puts : ByteArray := prog_14_method_27_code
def yX12_puts : MethodName := ⟨RX12, "puts", "(I)I"⟩
abbrev cX12_outOnes : ByteArray := prog_14_method_28_code
def yX12_outOnes : MethodName := ⟨RX12, "outOnes", "([I)I"⟩
abbrev cX12_turn : ByteArray := prog_14_method_29_code
def yX12_turn : MethodName := ⟨RX12, "turn", "()I"⟩
abbrev cX12_lends : ByteArray := prog_14_method_30_code
def yX12_lends : MethodName := ⟨RX12, "lends", "(II)I"⟩
abbrev cX12_undo : ByteArray := prog_14_method_31_code
def yX12_undo : MethodName := ⟨RX12, "undo", "()I"⟩
abbrev cX12_fair : ByteArray := prog_14_method_32_code
def yX12_fair : MethodName := ⟨RX12, "fair", "()I"⟩
abbrev cX12_leans : ByteArray := prog_14_method_33_code
def yX12_leans : MethodName := ⟨RX12, "leans", "()I"⟩
abbrev cX12_now : ByteArray := prog_14_method_34_code
def yX12_now : MethodName := ⟨RX12, "now", "(I)I"⟩
abbrev cX12_asNow : ByteArray := prog_14_method_35_code
def yX12_asNow : MethodName := ⟨RX12, "asNow", "()V"⟩
abbrev cX12_power : ByteArray := prog_14_method_36_code
def yX12_power : MethodName := ⟨RX12, "power", "(II)I"⟩
abbrev cX12_choose : ByteArray := prog_14_method_37_code
def yX12_choose : MethodName := ⟨RX12, "choose", "()V"⟩
abbrev cX12_tries : ByteArray := prog_14_method_38_code
def yX12_tries : MethodName := ⟨RX12, "tries", "(II)V"⟩
abbrev cX12_plans : ByteArray := prog_14_method_39_code
def yX12_plans : MethodName := ⟨RX12, "plans", "(I)V"⟩
abbrev cX12_plan : ByteArray := prog_14_method_40_code
def yX12_plan : MethodName := ⟨RX12, "plan", "(II)I"⟩
abbrev cX12_fullBy : ByteArray := prog_14_method_41_code
def yX12_fullBy : MethodName := ⟨RX12, "fullBy", "(II)I"⟩
abbrev cX12_missedBy : ByteArray := prog_14_method_42_code
def yX12_missedBy : MethodName := ⟨RX12, "missedBy", "(II)I"⟩
abbrev cX12_isHeard : ByteArray := prog_14_method_43_code
def yX12_isHeard : MethodName := ⟨RX12, "isHeard", "(III)Z"⟩
abbrev cX12_latest : ByteArray := prog_14_method_44_code
def yX12_latest : MethodName := ⟨RX12, "latest", "(II)I"⟩
abbrev cX12_says : ByteArray := prog_14_method_45_code
def yX12_says : MethodName := ⟨RX12, "says", "(IIII)I"⟩
abbrev cX12_forget : ByteArray := prog_14_method_46_code
def yX12_forget : MethodName := ⟨RX12, "forget", "()I"⟩
abbrev cX12_risen : ByteArray := prog_14_method_47_code
def yX12_risen : MethodName := ⟨RX12, "risen", "(III)I"⟩
abbrev cX12_could : ByteArray := prog_14_method_48_code
def yX12_could : MethodName := ⟨RX12, "could", "(II)I"⟩
abbrev cX12_liars : ByteArray := prog_14_method_49_code
def yX12_liars : MethodName := ⟨RX12, "liars", "()I"⟩
abbrev cX12_gcd : ByteArray := prog_14_method_50_code
def yX12_gcd : MethodName := ⟨RX12, "gcd", "(JJ)J"⟩
abbrev cX12_spreads : ByteArray := prog_14_method_51_code
def yX12_spreads : MethodName := ⟨RX12, "spreads", "(II)V"⟩
abbrev cX12_odds : ByteArray := prog_14_method_52_code
def yX12_odds : MethodName := ⟨RX12, "odds", "(IIIII)J"⟩
abbrev cX12_rate : ByteArray := prog_14_method_53_code
def yX12_rate : MethodName := ⟨RX12, "rate", "(II)I"⟩
abbrev cX12_keep : ByteArray := prog_14_method_54_code
def yX12_keep : MethodName := ⟨RX12, "keep", "(I)I"⟩
abbrev cX12_back : ByteArray := prog_14_method_55_code
def yX12_back : MethodName := ⟨RX12, "back", "(I)I"⟩
abbrev cX12_count : ByteArray := prog_14_method_56_code
def yX12_count : MethodName := ⟨RX12, "count", "(I)I"⟩
abbrev cX12_trace : ByteArray := prog_14_method_57_code
def yX12_trace : MethodName := ⟨RX12, "trace", "()J"⟩
def RJ6 : String := "java/lang/Integer"
def TJ6 : u_T := fun k => match k with
  | _ => ("", "", "", false)
def tyJ6 : Nat → FieldType := fun k => match k with
  | _ => .int
abbrev wsJ60 : List Cond := u_ws RJ6 TJ6 0
theorem nmJ6 : ∀ a, a < 0 → ∀ b, b < 0 → a ≠ b → (TJ6 a).2.1 ≠ (TJ6 b).2.1 := by decide +kernel
theorem tyJ6_ok : ∀ k, k < 0 → parseFieldDescriptor (TJ6 k).2.2.1 = some (tyJ6 k) := by decide +kernel
abbrev cJ6_bitCount_0f7a4 : ByteArray := prog_15_method_49_code
def yJ6_bitCount_0f7a4 : MethodName := ⟨RJ6, "bitCount", "(I)I"⟩
def RJ9 : String := "java/lang/Math"
def TJ9 : u_T := fun k => match k with
  | _ => ("", "", "", false)
def tyJ9 : Nat → FieldType := fun k => match k with
  | _ => .int
abbrev wsJ90 : List Cond := u_ws RJ9 TJ9 0
theorem nmJ9 : ∀ a, a < 0 → ∀ b, b < 0 → a ≠ b → (TJ9 a).2.1 ≠ (TJ9 b).2.1 := by decide +kernel
theorem tyJ9_ok : ∀ k, k < 0 → parseFieldDescriptor (TJ9 k).2.2.1 = some (tyJ9 k) := by decide +kernel
abbrev cJ9_max_7cf53 : ByteArray := prog_16_method_65_code
def yJ9_max_7cf53 : MethodName := ⟨RJ9, "max", "(II)I"⟩
abbrev cJ9_min_7cf53 : ByteArray := prog_16_method_69_code
def yJ9_min_7cf53 : MethodName := ⟨RJ9, "min", "(II)I"⟩
def RJ10 : String := "java/lang/System"
def TJ10 : u_T := fun k => match k with
  | _ => ("", "", "", false)
def tyJ10 : Nat → FieldType := fun k => match k with
  | _ => .int
abbrev wsJ100 : List Cond := u_ws RJ10 TJ10 0
theorem nmJ10 : ∀ a, a < 0 → ∀ b, b < 0 → a ≠ b → (TJ10 a).2.1 ≠ (TJ10 b).2.1 := by decide +kernel
theorem tyJ10_ok : ∀ k, k < 0 → parseFieldDescriptor (TJ10 k).2.2.1 = some (tyJ10 k) := by decide +kernel
def RL : String := "OneSocketLaw"
abbrev cL_law : ByteArray := code
def yL_law : MethodName := ⟨RL, "law", "([I)Z"⟩
abbrev vwCl : List vw_C := [(RX0, TX0, 0), (RX1, TX1, 0), (RX2, TX2, 3), (RX3, TX3, 0), (RX4, TX4, 6), (RX5, TX5, 7), (RX6, TX6, 0), (RX7, TX7, 7), (RX8, TX8, 0), (RX9, TX9, 0), (RX10, TX10, 12), (RX11, TX11, 15), (RX12, TX12, 37)]
set_option maxRecDepth 20000 in
theorem inX0 : ∀ w ∈ wsX00, w ∈ lw_tbl := by decide +kernel
set_option maxRecDepth 20000 in
theorem inX1 : ∀ w ∈ wsX10, w ∈ lw_tbl := by decide +kernel
set_option maxRecDepth 20000 in
theorem inX2 : ∀ w ∈ wsX20, w ∈ lw_tbl := by decide +kernel
set_option maxRecDepth 20000 in
theorem inX3 : ∀ w ∈ wsX30, w ∈ lw_tbl := by decide +kernel
set_option maxRecDepth 20000 in
theorem inX4 : ∀ w ∈ wsX40, w ∈ lw_tbl := by decide +kernel
set_option maxRecDepth 20000 in
theorem inX5 : ∀ w ∈ wsX50, w ∈ lw_tbl := by decide +kernel
set_option maxRecDepth 20000 in
theorem inX6 : ∀ w ∈ wsX60, w ∈ lw_tbl := by decide +kernel
set_option maxRecDepth 20000 in
theorem inX7 : ∀ w ∈ wsX70, w ∈ lw_tbl := by decide +kernel
set_option maxRecDepth 20000 in
theorem inX8 : ∀ w ∈ wsX80, w ∈ lw_tbl := by decide +kernel
set_option maxRecDepth 20000 in
theorem inX9 : ∀ w ∈ wsX90, w ∈ lw_tbl := by decide +kernel
set_option maxRecDepth 20000 in
theorem inX10 : ∀ w ∈ wsX100, w ∈ lw_tbl := by decide +kernel
set_option maxRecDepth 20000 in
theorem inX11 : ∀ w ∈ wsX110, w ∈ lw_tbl := by decide +kernel
set_option maxRecDepth 20000 in
theorem inX12 : ∀ w ∈ wsX120, w ∈ lw_tbl := by decide +kernel
end
section
theorem dX0_init_0 : decode cX0_init 0 = .ok (.aload_n 0, 1) := by decide +kernel
theorem dX0_init_1 : decode cX0_init 1 = .ok (.invokespecial 1, 3) := by decide +kernel
theorem dX0_init_4 : decode cX0_init 4 = .ok (.return_, 1) := by decide +kernel
theorem dX0_worth_0 : decode cX0_worth 0 = .ok (.aload_n 1, 1) := by decide +kernel
theorem dX0_worth_1 : decode cX0_worth 1 = .ok (.dup, 1) := by decide +kernel
theorem dX0_worth_2 : decode cX0_worth 2 = .ok (.getfield 7, 3) := by decide +kernel
theorem dX0_worth_5 : decode cX0_worth 5 = .ok (.ldc2_w 13, 3) := by decide +kernel
theorem dX0_worth_8 : decode cX0_worth 8 = .ok (.ladd, 1) := by decide +kernel
theorem dX0_worth_9 : decode cX0_worth 9 = .ok (.putfield 7, 3) := by decide +kernel
theorem dX0_worth_12 : decode cX0_worth 12 = .ok (.aload_n 0, 1) := by decide +kernel
theorem dX0_worth_13 : decode cX0_worth 13 = .ok (.aload_n 1, 1) := by decide +kernel
theorem dX0_worth_14 : decode cX0_worth 14 = .ok (.iload_n 2, 1) := by decide +kernel
theorem dX0_worth_15 : decode cX0_worth 15 = .ok (.invokespecial 15, 3) := by decide +kernel
theorem dX0_worth_18 : decode cX0_worth 18 = .ok (.aload_n 1, 1) := by decide +kernel
theorem dX0_worth_19 : decode cX0_worth 19 = .ok (.getfield 19, 3) := by decide +kernel
theorem dX0_worth_22 : decode cX0_worth 22 = .ok (.iload_n 2, 1) := by decide +kernel
theorem dX0_worth_23 : decode cX0_worth 23 = .ok (.invokevirtual 23, 3) := by decide +kernel
theorem dX0_worth_26 : decode cX0_worth 26 = .ok (.iadd, 1) := by decide +kernel
theorem dX0_worth_27 : decode cX0_worth 27 = .ok (.ireturn, 1) := by decide +kernel
theorem dX1_init_0 : decode cX1_init 0 = .ok (.aload_n 0, 1) := by decide +kernel
theorem dX1_init_1 : decode cX1_init 1 = .ok (.invokespecial 1, 3) := by decide +kernel
theorem dX1_init_4 : decode cX1_init 4 = .ok (.return_, 1) := by decide +kernel
theorem dX1_worth_0 : decode cX1_worth 0 = .ok (.aload_n 1, 1) := by decide +kernel
theorem dX1_worth_1 : decode cX1_worth 1 = .ok (.dup, 1) := by decide +kernel
theorem dX1_worth_2 : decode cX1_worth 2 = .ok (.getfield 7, 3) := by decide +kernel
theorem dX1_worth_5 : decode cX1_worth 5 = .ok (.ldc2_w 13, 3) := by decide +kernel
theorem dX1_worth_8 : decode cX1_worth 8 = .ok (.ladd, 1) := by decide +kernel
theorem dX1_worth_9 : decode cX1_worth 9 = .ok (.putfield 7, 3) := by decide +kernel
theorem dX1_worth_12 : decode cX1_worth 12 = .ok (.iconst 2, 1) := by decide +kernel
theorem dX1_worth_13 : decode cX1_worth 13 = .ok (.aload_n 0, 1) := by decide +kernel
theorem dX1_worth_14 : decode cX1_worth 14 = .ok (.aload_n 1, 1) := by decide +kernel
theorem dX1_worth_15 : decode cX1_worth 15 = .ok (.iload_n 2, 1) := by decide +kernel
theorem dX1_worth_16 : decode cX1_worth 16 = .ok (.invokespecial 15, 3) := by decide +kernel
theorem dX1_worth_19 : decode cX1_worth 19 = .ok (.imul, 1) := by decide +kernel
theorem dX1_worth_20 : decode cX1_worth 20 = .ok (.ireturn, 1) := by decide +kernel
theorem dX2_init_0 : decode cX2_init 0 = .ok (.aload_n 0, 1) := by decide +kernel
theorem dX2_init_1 : decode cX2_init 1 = .ok (.invokespecial 1, 3) := by decide +kernel
theorem dX2_init_4 : decode cX2_init 4 = .ok (.aload_n 0, 1) := by decide +kernel
theorem dX2_init_5 : decode cX2_init 5 = .ok (.bipush 10, 2) := by decide +kernel
theorem dX2_init_7 : decode cX2_init 7 = .ok (.bipush 14, 2) := by decide +kernel
theorem dX2_init_9 : decode cX2_init 9 = .ok (.multianewarray 11 2, 4) := by decide +kernel
theorem dX2_init_13 : decode cX2_init 13 = .ok (.putfield 13, 3) := by decide +kernel
theorem dX2_init_16 : decode cX2_init 16 = .ok (.aload_n 0, 1) := by decide +kernel
theorem dX2_init_17 : decode cX2_init 17 = .ok (.bipush 9, 2) := by decide +kernel
theorem dX2_init_19 : decode cX2_init 19 = .ok (.putfield 16, 3) := by decide +kernel
theorem dX2_init_22 : decode cX2_init 22 = .ok (.aload_n 0, 1) := by decide +kernel
theorem dX2_init_23 : decode cX2_init 23 = .ok (.iconst 0, 1) := by decide +kernel
theorem dX2_init_24 : decode cX2_init 24 = .ok (.putfield 20, 3) := by decide +kernel
theorem dX2_init_27 : decode cX2_init 27 = .ok (.return_, 1) := by decide +kernel
theorem dX2_write_0 : decode cX2_write 0 = .ok (.aload_n 0, 1) := by decide +kernel
theorem dX2_write_1 : decode cX2_write 1 = .ok (.aload_n 0, 1) := by decide +kernel
theorem dX2_write_2 : decode cX2_write 2 = .ok (.getfield 16, 3) := by decide +kernel
theorem dX2_write_5 : decode cX2_write 5 = .ok (.iconst 1, 1) := by decide +kernel
theorem dX2_write_6 : decode cX2_write 6 = .ok (.iadd, 1) := by decide +kernel
theorem dX2_write_7 : decode cX2_write 7 = .ok (.bipush 10, 2) := by decide +kernel
theorem dX2_write_9 : decode cX2_write 9 = .ok (.irem, 1) := by decide +kernel
theorem dX2_write_10 : decode cX2_write 10 = .ok (.putfield 16, 3) := by decide +kernel
theorem dX2_write_13 : decode cX2_write 13 = .ok (.aload_n 1, 1) := by decide +kernel
theorem dX2_write_14 : decode cX2_write 14 = .ok (.aload_n 0, 1) := by decide +kernel
theorem dX2_write_15 : decode cX2_write 15 = .ok (.getfield 13, 3) := by decide +kernel
theorem dX2_write_18 : decode cX2_write 18 = .ok (.aload_n 0, 1) := by decide +kernel
theorem dX2_write_19 : decode cX2_write 19 = .ok (.getfield 16, 3) := by decide +kernel
theorem dX2_write_22 : decode cX2_write 22 = .ok (.aaload, 1) := by decide +kernel
theorem dX2_write_23 : decode cX2_write 23 = .ok (.invokevirtual 23, 3) := by decide +kernel
theorem dX2_write_26 : decode cX2_write 26 = .ok (.aload_n 0, 1) := by decide +kernel
theorem dX2_write_27 : decode cX2_write 27 = .ok (.bipush 10, 2) := by decide +kernel
theorem dX2_write_29 : decode cX2_write 29 = .ok (.aload_n 0, 1) := by decide +kernel
theorem dX2_write_30 : decode cX2_write 30 = .ok (.getfield 20, 3) := by decide +kernel
theorem dX2_write_33 : decode cX2_write 33 = .ok (.iconst 1, 1) := by decide +kernel
theorem dX2_write_34 : decode cX2_write 34 = .ok (.iadd, 1) := by decide +kernel
theorem dX2_write_35 : decode cX2_write 35 = .ok (.invokestatic 27, 3) := by decide +kernel
theorem dX2_write_38 : decode cX2_write 38 = .ok (.putfield 20, 3) := by decide +kernel
theorem dX2_write_41 : decode cX2_write 41 = .ok (.return_, 1) := by decide +kernel
theorem dX2_takeBack_0 : decode cX2_takeBack 0 = .ok (.aload_n 1, 1) := by decide +kernel
theorem dX2_takeBack_1 : decode cX2_takeBack 1 = .ok (.aload_n 0, 1) := by decide +kernel
theorem dX2_takeBack_2 : decode cX2_takeBack 2 = .ok (.getfield 13, 3) := by decide +kernel
theorem dX2_takeBack_5 : decode cX2_takeBack 5 = .ok (.aload_n 0, 1) := by decide +kernel
theorem dX2_takeBack_6 : decode cX2_takeBack 6 = .ok (.getfield 16, 3) := by decide +kernel
theorem dX2_takeBack_9 : decode cX2_takeBack 9 = .ok (.aaload, 1) := by decide +kernel
theorem dX2_takeBack_10 : decode cX2_takeBack 10 = .ok (.invokevirtual 33, 3) := by decide +kernel
theorem dX2_takeBack_13 : decode cX2_takeBack 13 = .ok (.aload_n 0, 1) := by decide +kernel
theorem dX2_takeBack_14 : decode cX2_takeBack 14 = .ok (.aload_n 0, 1) := by decide +kernel
theorem dX2_takeBack_15 : decode cX2_takeBack 15 = .ok (.getfield 16, 3) := by decide +kernel
theorem dX2_takeBack_18 : decode cX2_takeBack 18 = .ok (.bipush 10, 2) := by decide +kernel
theorem dX2_takeBack_20 : decode cX2_takeBack 20 = .ok (.iadd, 1) := by decide +kernel
theorem dX2_takeBack_21 : decode cX2_takeBack 21 = .ok (.iconst 1, 1) := by decide +kernel
theorem dX2_takeBack_22 : decode cX2_takeBack 22 = .ok (.isub, 1) := by decide +kernel
theorem dX2_takeBack_23 : decode cX2_takeBack 23 = .ok (.bipush 10, 2) := by decide +kernel
theorem dX2_takeBack_25 : decode cX2_takeBack 25 = .ok (.irem, 1) := by decide +kernel
theorem dX2_takeBack_26 : decode cX2_takeBack 26 = .ok (.putfield 16, 3) := by decide +kernel
theorem dX2_takeBack_29 : decode cX2_takeBack 29 = .ok (.aload_n 0, 1) := by decide +kernel
theorem dX2_takeBack_30 : decode cX2_takeBack 30 = .ok (.dup, 1) := by decide +kernel
theorem dX2_takeBack_31 : decode cX2_takeBack 31 = .ok (.getfield 20, 3) := by decide +kernel
theorem dX2_takeBack_34 : decode cX2_takeBack 34 = .ok (.iconst 1, 1) := by decide +kernel
theorem dX2_takeBack_35 : decode cX2_takeBack 35 = .ok (.isub, 1) := by decide +kernel
theorem dX2_takeBack_36 : decode cX2_takeBack 36 = .ok (.putfield 20, 3) := by decide +kernel
theorem dX2_takeBack_39 : decode cX2_takeBack 39 = .ok (.return_, 1) := by decide +kernel
theorem dX3_init_0 : decode cX3_init 0 = .ok (.aload_n 0, 1) := by decide +kernel
theorem dX3_init_1 : decode cX3_init 1 = .ok (.invokespecial 1, 3) := by decide +kernel
theorem dX3_init_4 : decode cX3_init 4 = .ok (.return_, 1) := by decide +kernel
theorem dX3_worth_0 : decode cX3_worth 0 = .ok (.aload_n 1, 1) := by decide +kernel
theorem dX3_worth_1 : decode cX3_worth 1 = .ok (.dup, 1) := by decide +kernel
theorem dX3_worth_2 : decode cX3_worth 2 = .ok (.getfield 7, 3) := by decide +kernel
theorem dX3_worth_5 : decode cX3_worth 5 = .ok (.ldc2_w 13, 3) := by decide +kernel
theorem dX3_worth_8 : decode cX3_worth 8 = .ok (.ladd, 1) := by decide +kernel
theorem dX3_worth_9 : decode cX3_worth 9 = .ok (.putfield 7, 3) := by decide +kernel
theorem dX3_worth_12 : decode cX3_worth 12 = .ok (.aload_n 0, 1) := by decide +kernel
theorem dX3_worth_13 : decode cX3_worth 13 = .ok (.aload_n 1, 1) := by decide +kernel
theorem dX3_worth_14 : decode cX3_worth 14 = .ok (.iload_n 2, 1) := by decide +kernel
theorem dX3_worth_15 : decode cX3_worth 15 = .ok (.invokespecial 15, 3) := by decide +kernel
theorem dX3_worth_18 : decode cX3_worth 18 = .ok (.aload_n 1, 1) := by decide +kernel
theorem dX3_worth_19 : decode cX3_worth 19 = .ok (.getfield 19, 3) := by decide +kernel
theorem dX3_worth_22 : decode cX3_worth 22 = .ok (.getfield 23, 3) := by decide +kernel
theorem dX3_worth_25 : decode cX3_worth 25 = .ok (.iload_n 2, 1) := by decide +kernel
theorem dX3_worth_26 : decode cX3_worth 26 = .ok (.iaload, 1) := by decide +kernel
theorem dX3_worth_27 : decode cX3_worth 27 = .ok (.isub, 1) := by decide +kernel
theorem dX3_worth_28 : decode cX3_worth 28 = .ok (.ireturn, 1) := by decide +kernel
theorem dX4_init_0 : decode cX4_init 0 = .ok (.aload_n 0, 1) := by decide +kernel
theorem dX4_init_1 : decode cX4_init 1 = .ok (.invokespecial 5, 3) := by decide +kernel
theorem dX4_init_4 : decode cX4_init 4 = .ok (.aload_n 0, 1) := by decide +kernel
theorem dX4_init_5 : decode cX4_init 5 = .ok (.iconst 0, 1) := by decide +kernel
theorem dX4_init_6 : decode cX4_init 6 = .ok (.putfield 11, 3) := by decide +kernel
theorem dX4_init_9 : decode cX4_init 9 = .ok (.aload_n 0, 1) := by decide +kernel
theorem dX4_init_10 : decode cX4_init 10 = .ok (.iconst 0, 1) := by decide +kernel
theorem dX4_init_11 : decode cX4_init 11 = .ok (.putfield 15, 3) := by decide +kernel
theorem dX4_init_14 : decode cX4_init 14 = .ok (.aload_n 0, 1) := by decide +kernel
theorem dX4_init_15 : decode cX4_init 15 = .ok (.iconst 0, 1) := by decide +kernel
theorem dX4_init_16 : decode cX4_init 16 = .ok (.putfield 18, 3) := by decide +kernel
theorem dX4_init_19 : decode cX4_init 19 = .ok (.aload_n 0, 1) := by decide +kernel
theorem dX4_init_20 : decode cX4_init 20 = .ok (.iconst 0, 1) := by decide +kernel
theorem dX4_init_21 : decode cX4_init 21 = .ok (.putfield 21, 3) := by decide +kernel
theorem dX4_init_24 : decode cX4_init 24 = .ok (.aload_n 0, 1) := by decide +kernel
theorem dX4_init_25 : decode cX4_init 25 = .ok (.iconst 5, 1) := by decide +kernel
theorem dX4_init_26 : decode cX4_init 26 = .ok (.newarray .int, 2) := by decide +kernel
theorem dX4_init_28 : decode cX4_init 28 = .ok (.putfield 24, 3) := by decide +kernel
theorem dX4_init_31 : decode cX4_init 31 = .ok (.aload_n 0, 1) := by decide +kernel
theorem dX4_init_32 : decode cX4_init 32 = .ok (.iconst 5, 1) := by decide +kernel
theorem dX4_init_33 : decode cX4_init 33 = .ok (.newarray .int, 2) := by decide +kernel
theorem dX4_init_35 : decode cX4_init 35 = .ok (.putfield 28, 3) := by decide +kernel
theorem dX4_init_38 : decode cX4_init 38 = .ok (.return_, 1) := by decide +kernel
theorem dX4_begin_0 : decode cX4_begin 0 = .ok (.aload_n 0, 1) := by decide +kernel
theorem dX4_begin_1 : decode cX4_begin 1 = .ok (.iconst 0, 1) := by decide +kernel
theorem dX4_begin_2 : decode cX4_begin 2 = .ok (.putfield 11, 3) := by decide +kernel
theorem dX4_begin_5 : decode cX4_begin 5 = .ok (.aload_n 0, 1) := by decide +kernel
theorem dX4_begin_6 : decode cX4_begin 6 = .ok (.iconst 0, 1) := by decide +kernel
theorem dX4_begin_7 : decode cX4_begin 7 = .ok (.putfield 15, 3) := by decide +kernel
theorem dX4_begin_10 : decode cX4_begin 10 = .ok (.aload_n 0, 1) := by decide +kernel
theorem dX4_begin_11 : decode cX4_begin 11 = .ok (.iconst 0, 1) := by decide +kernel
theorem dX4_begin_12 : decode cX4_begin 12 = .ok (.putfield 18, 3) := by decide +kernel
theorem dX4_begin_15 : decode cX4_begin 15 = .ok (.aload_n 0, 1) := by decide +kernel
theorem dX4_begin_16 : decode cX4_begin 16 = .ok (.iconst 0, 1) := by decide +kernel
theorem dX4_begin_17 : decode cX4_begin 17 = .ok (.putfield 21, 3) := by decide +kernel
theorem dX4_begin_20 : decode cX4_begin 20 = .ok (.iconst 0, 1) := by decide +kernel
theorem dX4_begin_21 : decode cX4_begin 21 = .ok (.istore_n 2, 1) := by decide +kernel
theorem dX4_begin_22 : decode cX4_begin 22 = .ok (.iload_n 2, 1) := by decide +kernel
theorem dX4_begin_23 : decode cX4_begin 23 = .ok (.iconst 5, 1) := by decide +kernel
theorem dX4_begin_24 : decode cX4_begin 24 = .ok (.if_icmp .ge 28, 3) := by decide +kernel
theorem dX4_begin_27 : decode cX4_begin 27 = .ok (.aload_n 0, 1) := by decide +kernel
theorem dX4_begin_28 : decode cX4_begin 28 = .ok (.getfield 24, 3) := by decide +kernel
theorem dX4_begin_31 : decode cX4_begin 31 = .ok (.iload_n 2, 1) := by decide +kernel
theorem dX4_begin_32 : decode cX4_begin 32 = .ok (.aload_n 1, 1) := by decide +kernel
theorem dX4_begin_33 : decode cX4_begin 33 = .ok (.getfield 31, 3) := by decide +kernel
theorem dX4_begin_36 : decode cX4_begin 36 = .ok (.iload_n 2, 1) := by decide +kernel
theorem dX4_begin_37 : decode cX4_begin 37 = .ok (.iaload, 1) := by decide +kernel
theorem dX4_begin_38 : decode cX4_begin 38 = .ok (.iastore, 1) := by decide +kernel
theorem dX4_begin_39 : decode cX4_begin 39 = .ok (.aload_n 0, 1) := by decide +kernel
theorem dX4_begin_40 : decode cX4_begin 40 = .ok (.getfield 28, 3) := by decide +kernel
theorem dX4_begin_43 : decode cX4_begin 43 = .ok (.iload_n 2, 1) := by decide +kernel
theorem dX4_begin_44 : decode cX4_begin 44 = .ok (.iconst 0, 1) := by decide +kernel
theorem dX4_begin_45 : decode cX4_begin 45 = .ok (.iastore, 1) := by decide +kernel
theorem dX4_begin_46 : decode cX4_begin 46 = .ok (.iinc 2 1, 3) := by decide +kernel
theorem dX4_begin_49 : decode cX4_begin 49 = .ok (.goto (-27), 3) := by decide +kernel
theorem dX4_begin_52 : decode cX4_begin 52 = .ok (.return_, 1) := by decide +kernel
theorem dX4_isOn_0 : decode cX4_isOn 0 = .ok (.aload_n 0, 1) := by decide +kernel
theorem dX4_isOn_1 : decode cX4_isOn 1 = .ok (.getfield 15, 3) := by decide +kernel
theorem dX4_isOn_4 : decode cX4_isOn 4 = .ok (.iload_n 1, 1) := by decide +kernel
theorem dX4_isOn_5 : decode cX4_isOn 5 = .ok (.ishr, 1) := by decide +kernel
theorem dX4_isOn_6 : decode cX4_isOn 6 = .ok (.iconst 1, 1) := by decide +kernel
theorem dX4_isOn_7 : decode cX4_isOn 7 = .ok (.iand, 1) := by decide +kernel
theorem dX4_isOn_8 : decode cX4_isOn 8 = .ok (.iconst 1, 1) := by decide +kernel
theorem dX4_isOn_9 : decode cX4_isOn 9 = .ok (.if_icmp .ne 7, 3) := by decide +kernel
theorem dX4_isOn_12 : decode cX4_isOn 12 = .ok (.iconst 1, 1) := by decide +kernel
theorem dX4_isOn_13 : decode cX4_isOn 13 = .ok (.goto 4, 3) := by decide +kernel
theorem dX4_isOn_16 : decode cX4_isOn 16 = .ok (.iconst 0, 1) := by decide +kernel
theorem dX4_isOn_17 : decode cX4_isOn 17 = .ok (.ireturn, 1) := by decide +kernel
theorem dX4_goOn_0 : decode cX4_goOn 0 = .ok (.aload_n 1, 1) := by decide +kernel
theorem dX4_goOn_1 : decode cX4_goOn 1 = .ok (.aload_n 0, 1) := by decide +kernel
theorem dX4_goOn_2 : decode cX4_goOn 2 = .ok (.getfield 11, 3) := by decide +kernel
theorem dX4_goOn_5 : decode cX4_goOn 5 = .ok (.invokevirtual 34, 3) := by decide +kernel
theorem dX4_goOn_8 : decode cX4_goOn 8 = .ok (.ifCond .ne 7, 3) := by decide +kernel
theorem dX4_goOn_11 : decode cX4_goOn 11 = .ok (.iconst 1, 1) := by decide +kernel
theorem dX4_goOn_12 : decode cX4_goOn 12 = .ok (.goto 4, 3) := by decide +kernel
theorem dX4_goOn_15 : decode cX4_goOn 15 = .ok (.iconst 0, 1) := by decide +kernel
theorem dX4_goOn_16 : decode cX4_goOn 16 = .ok (.istore_n 2, 1) := by decide +kernel
theorem dX4_goOn_17 : decode cX4_goOn 17 = .ok (.iconst 0, 1) := by decide +kernel
theorem dX4_goOn_18 : decode cX4_goOn 18 = .ok (.istore_n 3, 1) := by decide +kernel
theorem dX4_goOn_19 : decode cX4_goOn 19 = .ok (.iload_n 3, 1) := by decide +kernel
theorem dX4_goOn_20 : decode cX4_goOn 20 = .ok (.aload_n 1, 1) := by decide +kernel
theorem dX4_goOn_21 : decode cX4_goOn 21 = .ok (.getfield 38, 3) := by decide +kernel
theorem dX4_goOn_24 : decode cX4_goOn 24 = .ok (.if_icmp .ge 81, 3) := by decide +kernel
theorem dX4_goOn_27 : decode cX4_goOn 27 = .ok (.aload_n 0, 1) := by decide +kernel
theorem dX4_goOn_28 : decode cX4_goOn 28 = .ok (.dup, 1) := by decide +kernel
theorem dX4_goOn_29 : decode cX4_goOn 29 = .ok (.getfield 21, 3) := by decide +kernel
theorem dX4_goOn_32 : decode cX4_goOn 32 = .ok (.aload_n 1, 1) := by decide +kernel
theorem dX4_goOn_33 : decode cX4_goOn 33 = .ok (.aload_n 0, 1) := by decide +kernel
theorem dX4_goOn_34 : decode cX4_goOn 34 = .ok (.getfield 11, 3) := by decide +kernel
theorem dX4_goOn_37 : decode cX4_goOn 37 = .ok (.iload_n 3, 1) := by decide +kernel
theorem dX4_goOn_38 : decode cX4_goOn 38 = .ok (.aload_n 0, 1) := by decide +kernel
theorem dX4_goOn_39 : decode cX4_goOn 39 = .ok (.getfield 24, 3) := by decide +kernel
theorem dX4_goOn_42 : decode cX4_goOn 42 = .ok (.iload_n 3, 1) := by decide +kernel
theorem dX4_goOn_43 : decode cX4_goOn 43 = .ok (.iaload, 1) := by decide +kernel
theorem dX4_goOn_44 : decode cX4_goOn 44 = .ok (.invokevirtual 41, 3) := by decide +kernel
theorem dX4_goOn_47 : decode cX4_goOn 47 = .ok (.iadd, 1) := by decide +kernel
theorem dX4_goOn_48 : decode cX4_goOn 48 = .ok (.putfield 21, 3) := by decide +kernel
theorem dX4_goOn_51 : decode cX4_goOn 51 = .ok (.aload_n 0, 1) := by decide +kernel
theorem dX4_goOn_52 : decode cX4_goOn 52 = .ok (.getfield 24, 3) := by decide +kernel
theorem dX4_goOn_55 : decode cX4_goOn 55 = .ok (.iload_n 3, 1) := by decide +kernel
theorem dX4_goOn_56 : decode cX4_goOn 56 = .ok (.aload_n 1, 1) := by decide +kernel
theorem dX4_goOn_57 : decode cX4_goOn 57 = .ok (.aload_n 0, 1) := by decide +kernel
theorem dX4_goOn_58 : decode cX4_goOn 58 = .ok (.getfield 11, 3) := by decide +kernel
theorem dX4_goOn_61 : decode cX4_goOn 61 = .ok (.iload_n 3, 1) := by decide +kernel
theorem dX4_goOn_62 : decode cX4_goOn 62 = .ok (.aload_n 0, 1) := by decide +kernel
theorem dX4_goOn_63 : decode cX4_goOn 63 = .ok (.getfield 24, 3) := by decide +kernel
theorem dX4_goOn_66 : decode cX4_goOn 66 = .ok (.iload_n 3, 1) := by decide +kernel
theorem dX4_goOn_67 : decode cX4_goOn 67 = .ok (.iaload, 1) := by decide +kernel
theorem dX4_goOn_68 : decode cX4_goOn 68 = .ok (.aload_n 0, 1) := by decide +kernel
theorem dX4_goOn_69 : decode cX4_goOn 69 = .ok (.iload_n 3, 1) := by decide +kernel
theorem dX4_goOn_70 : decode cX4_goOn 70 = .ok (.invokevirtual 45, 3) := by decide +kernel
theorem dX4_goOn_73 : decode cX4_goOn 73 = .ok (.invokevirtual 48, 3) := by decide +kernel
theorem dX4_goOn_76 : decode cX4_goOn 76 = .ok (.iastore, 1) := by decide +kernel
theorem dX4_goOn_77 : decode cX4_goOn 77 = .ok (.iload_n 2, 1) := by decide +kernel
theorem dX4_goOn_78 : decode cX4_goOn 78 = .ok (.ifCond .eq 21, 3) := by decide +kernel
theorem dX4_goOn_81 : decode cX4_goOn 81 = .ok (.aload_n 0, 1) := by decide +kernel
theorem dX4_goOn_82 : decode cX4_goOn 82 = .ok (.iload_n 3, 1) := by decide +kernel
theorem dX4_goOn_83 : decode cX4_goOn 83 = .ok (.invokevirtual 45, 3) := by decide +kernel
theorem dX4_goOn_86 : decode cX4_goOn 86 = .ok (.ifCond .eq 13, 3) := by decide +kernel
theorem dX4_goOn_89 : decode cX4_goOn 89 = .ok (.aload_n 0, 1) := by decide +kernel
theorem dX4_goOn_90 : decode cX4_goOn 90 = .ok (.getfield 28, 3) := by decide +kernel
theorem dX4_goOn_93 : decode cX4_goOn 93 = .ok (.iload_n 3, 1) := by decide +kernel
theorem dX4_goOn_94 : decode cX4_goOn 94 = .ok (.dup2, 1) := by decide +kernel
theorem dX4_goOn_95 : decode cX4_goOn 95 = .ok (.iaload, 1) := by decide +kernel
theorem dX4_goOn_96 : decode cX4_goOn 96 = .ok (.iconst 1, 1) := by decide +kernel
theorem dX4_goOn_97 : decode cX4_goOn 97 = .ok (.iadd, 1) := by decide +kernel
theorem dX4_goOn_98 : decode cX4_goOn 98 = .ok (.iastore, 1) := by decide +kernel
theorem dX4_goOn_99 : decode cX4_goOn 99 = .ok (.iinc 3 1, 3) := by decide +kernel
theorem dX4_goOn_102 : decode cX4_goOn 102 = .ok (.goto (-83), 3) := by decide +kernel
theorem dX4_goOn_105 : decode cX4_goOn 105 = .ok (.aload_n 0, 1) := by decide +kernel
theorem dX4_goOn_106 : decode cX4_goOn 106 = .ok (.dup, 1) := by decide +kernel
theorem dX4_goOn_107 : decode cX4_goOn 107 = .ok (.getfield 11, 3) := by decide +kernel
theorem dX4_goOn_110 : decode cX4_goOn 110 = .ok (.iconst 1, 1) := by decide +kernel
theorem dX4_goOn_111 : decode cX4_goOn 111 = .ok (.iadd, 1) := by decide +kernel
theorem dX4_goOn_112 : decode cX4_goOn 112 = .ok (.putfield 11, 3) := by decide +kernel
theorem dX4_goOn_115 : decode cX4_goOn 115 = .ok (.return_, 1) := by decide +kernel
theorem dX4_out_0 : decode cX4_out 0 = .ok (.iconst 0, 1) := by decide +kernel
theorem dX4_out_1 : decode cX4_out 1 = .ok (.istore_n 2, 1) := by decide +kernel
theorem dX4_out_2 : decode cX4_out 2 = .ok (.iconst 0, 1) := by decide +kernel
theorem dX4_out_3 : decode cX4_out 3 = .ok (.istore_n 3, 1) := by decide +kernel
theorem dX4_out_4 : decode cX4_out 4 = .ok (.iload_n 3, 1) := by decide +kernel
theorem dX4_out_5 : decode cX4_out 5 = .ok (.iload_n 1, 1) := by decide +kernel
theorem dX4_out_6 : decode cX4_out 6 = .ok (.if_icmp .ge 24, 3) := by decide +kernel
theorem dX4_out_9 : decode cX4_out 9 = .ok (.aload_n 0, 1) := by decide +kernel
theorem dX4_out_10 : decode cX4_out 10 = .ok (.getfield 24, 3) := by decide +kernel
theorem dX4_out_13 : decode cX4_out 13 = .ok (.iload_n 3, 1) := by decide +kernel
theorem dX4_out_14 : decode cX4_out 14 = .ok (.iaload, 1) := by decide +kernel
theorem dX4_out_15 : decode cX4_out 15 = .ok (.ifCond .ne 9, 3) := by decide +kernel
theorem dX4_out_18 : decode cX4_out 18 = .ok (.iload_n 2, 1) := by decide +kernel
theorem dX4_out_19 : decode cX4_out 19 = .ok (.iconst 1, 1) := by decide +kernel
theorem dX4_out_20 : decode cX4_out 20 = .ok (.iload_n 3, 1) := by decide +kernel
theorem dX4_out_21 : decode cX4_out 21 = .ok (.ishl, 1) := by decide +kernel
theorem dX4_out_22 : decode cX4_out 22 = .ok (.ior, 1) := by decide +kernel
theorem dX4_out_23 : decode cX4_out 23 = .ok (.istore_n 2, 1) := by decide +kernel
theorem dX4_out_24 : decode cX4_out 24 = .ok (.iinc 3 1, 3) := by decide +kernel
theorem dX4_out_27 : decode cX4_out 27 = .ok (.goto (-23), 3) := by decide +kernel
theorem dX4_out_30 : decode cX4_out 30 = .ok (.iload_n 2, 1) := by decide +kernel
theorem dX4_out_31 : decode cX4_out 31 = .ok (.ireturn, 1) := by decide +kernel
theorem dX4_fair_0 : decode cX4_fair 0 = .ok (.iconst 0, 1) := by decide +kernel
theorem dX4_fair_1 : decode cX4_fair 1 = .ok (.istore_n 2, 1) := by decide +kernel
theorem dX4_fair_2 : decode cX4_fair 2 = .ok (.iload_n 1, 1) := by decide +kernel
theorem dX4_fair_3 : decode cX4_fair 3 = .ok (.ifCond .ne 7, 3) := by decide +kernel
theorem dX4_fair_6 : decode cX4_fair 6 = .ok (.iconst 0, 1) := by decide +kernel
theorem dX4_fair_7 : decode cX4_fair 7 = .ok (.goto 9, 3) := by decide +kernel
theorem dX4_fair_10 : decode cX4_fair 10 = .ok (.aload_n 0, 1) := by decide +kernel
theorem dX4_fair_11 : decode cX4_fair 11 = .ok (.getfield 28, 3) := by decide +kernel
theorem dX4_fair_14 : decode cX4_fair 14 = .ok (.iconst 0, 1) := by decide +kernel
theorem dX4_fair_15 : decode cX4_fair 15 = .ok (.iaload, 1) := by decide +kernel
theorem dX4_fair_16 : decode cX4_fair 16 = .ok (.istore_n 3, 1) := by decide +kernel
theorem dX4_fair_17 : decode cX4_fair 17 = .ok (.iconst 0, 1) := by decide +kernel
theorem dX4_fair_18 : decode cX4_fair 18 = .ok (.istore 4, 2) := by decide +kernel
theorem dX4_fair_20 : decode cX4_fair 20 = .ok (.iload 4, 2) := by decide +kernel
theorem dX4_fair_22 : decode cX4_fair 22 = .ok (.iload_n 1, 1) := by decide +kernel
theorem dX4_fair_23 : decode cX4_fair 23 = .ok (.if_icmp .ge 33, 3) := by decide +kernel
theorem dX4_fair_26 : decode cX4_fair 26 = .ok (.iload_n 2, 1) := by decide +kernel
theorem dX4_fair_27 : decode cX4_fair 27 = .ok (.aload_n 0, 1) := by decide +kernel
theorem dX4_fair_28 : decode cX4_fair 28 = .ok (.getfield 28, 3) := by decide +kernel
theorem dX4_fair_31 : decode cX4_fair 31 = .ok (.iload 4, 2) := by decide +kernel
theorem dX4_fair_33 : decode cX4_fair 33 = .ok (.iaload, 1) := by decide +kernel
theorem dX4_fair_34 : decode cX4_fair 34 = .ok (.invokestatic 52, 3) := by decide +kernel
theorem dX4_fair_37 : decode cX4_fair 37 = .ok (.istore_n 2, 1) := by decide +kernel
theorem dX4_fair_38 : decode cX4_fair 38 = .ok (.iload_n 3, 1) := by decide +kernel
theorem dX4_fair_39 : decode cX4_fair 39 = .ok (.aload_n 0, 1) := by decide +kernel
theorem dX4_fair_40 : decode cX4_fair 40 = .ok (.getfield 28, 3) := by decide +kernel
theorem dX4_fair_43 : decode cX4_fair 43 = .ok (.iload 4, 2) := by decide +kernel
theorem dX4_fair_45 : decode cX4_fair 45 = .ok (.iaload, 1) := by decide +kernel
theorem dX4_fair_46 : decode cX4_fair 46 = .ok (.invokestatic 58, 3) := by decide +kernel
theorem dX4_fair_49 : decode cX4_fair 49 = .ok (.istore_n 3, 1) := by decide +kernel
theorem dX4_fair_50 : decode cX4_fair 50 = .ok (.iinc 4 1, 3) := by decide +kernel
theorem dX4_fair_53 : decode cX4_fair 53 = .ok (.goto (-33), 3) := by decide +kernel
theorem dX4_fair_56 : decode cX4_fair 56 = .ok (.iload_n 2, 1) := by decide +kernel
theorem dX4_fair_57 : decode cX4_fair 57 = .ok (.iload_n 3, 1) := by decide +kernel
theorem dX4_fair_58 : decode cX4_fair 58 = .ok (.isub, 1) := by decide +kernel
theorem dX4_fair_59 : decode cX4_fair 59 = .ok (.ireturn, 1) := by decide +kernel
theorem dX4_leans_0 : decode cX4_leans 0 = .ok (.iload_n 1, 1) := by decide +kernel
theorem dX4_leans_1 : decode cX4_leans 1 = .ok (.iconst 2, 1) := by decide +kernel
theorem dX4_leans_2 : decode cX4_leans 2 = .ok (.if_icmp .ge 6, 3) := by decide +kernel
theorem dX4_leans_5 : decode cX4_leans 5 = .ok (.bipush (-9), 2) := by decide +kernel
theorem dX4_leans_7 : decode cX4_leans 7 = .ok (.ireturn, 1) := by decide +kernel
theorem dX4_leans_8 : decode cX4_leans 8 = .ok (.iconst 0, 1) := by decide +kernel
theorem dX4_leans_9 : decode cX4_leans 9 = .ok (.istore_n 2, 1) := by decide +kernel
theorem dX4_leans_10 : decode cX4_leans 10 = .ok (.iconst 0, 1) := by decide +kernel
theorem dX4_leans_11 : decode cX4_leans 11 = .ok (.istore_n 3, 1) := by decide +kernel
theorem dX4_leans_12 : decode cX4_leans 12 = .ok (.iconst 1, 1) := by decide +kernel
theorem dX4_leans_13 : decode cX4_leans 13 = .ok (.istore 4, 2) := by decide +kernel
theorem dX4_leans_15 : decode cX4_leans 15 = .ok (.iload 4, 2) := by decide +kernel
theorem dX4_leans_17 : decode cX4_leans 17 = .ok (.iload_n 1, 1) := by decide +kernel
theorem dX4_leans_18 : decode cX4_leans 18 = .ok (.if_icmp .ge 55, 3) := by decide +kernel
theorem dX4_leans_21 : decode cX4_leans 21 = .ok (.aload_n 0, 1) := by decide +kernel
theorem dX4_leans_22 : decode cX4_leans 22 = .ok (.getfield 24, 3) := by decide +kernel
theorem dX4_leans_25 : decode cX4_leans 25 = .ok (.iload 4, 2) := by decide +kernel
theorem dX4_leans_27 : decode cX4_leans 27 = .ok (.iaload, 1) := by decide +kernel
theorem dX4_leans_28 : decode cX4_leans 28 = .ok (.aload_n 0, 1) := by decide +kernel
theorem dX4_leans_29 : decode cX4_leans 29 = .ok (.getfield 24, 3) := by decide +kernel
theorem dX4_leans_32 : decode cX4_leans 32 = .ok (.iload_n 2, 1) := by decide +kernel
theorem dX4_leans_33 : decode cX4_leans 33 = .ok (.iaload, 1) := by decide +kernel
theorem dX4_leans_34 : decode cX4_leans 34 = .ok (.if_icmp .le 8, 3) := by decide +kernel
theorem dX4_leans_37 : decode cX4_leans 37 = .ok (.iload 4, 2) := by decide +kernel
theorem dX4_leans_39 : decode cX4_leans 39 = .ok (.goto 4, 3) := by decide +kernel
theorem dX4_leans_42 : decode cX4_leans 42 = .ok (.iload_n 2, 1) := by decide +kernel
theorem dX4_leans_43 : decode cX4_leans 43 = .ok (.istore_n 2, 1) := by decide +kernel
theorem dX4_leans_44 : decode cX4_leans 44 = .ok (.aload_n 0, 1) := by decide +kernel
theorem dX4_leans_45 : decode cX4_leans 45 = .ok (.getfield 24, 3) := by decide +kernel
theorem dX4_leans_48 : decode cX4_leans 48 = .ok (.iload 4, 2) := by decide +kernel
theorem dX4_leans_50 : decode cX4_leans 50 = .ok (.iaload, 1) := by decide +kernel
theorem dX4_leans_51 : decode cX4_leans 51 = .ok (.aload_n 0, 1) := by decide +kernel
theorem dX4_leans_52 : decode cX4_leans 52 = .ok (.getfield 24, 3) := by decide +kernel
theorem dX4_leans_55 : decode cX4_leans 55 = .ok (.iload_n 3, 1) := by decide +kernel
theorem dX4_leans_56 : decode cX4_leans 56 = .ok (.iaload, 1) := by decide +kernel
theorem dX4_leans_57 : decode cX4_leans 57 = .ok (.if_icmp .ge 8, 3) := by decide +kernel
theorem dX4_leans_60 : decode cX4_leans 60 = .ok (.iload 4, 2) := by decide +kernel
theorem dX4_leans_62 : decode cX4_leans 62 = .ok (.goto 4, 3) := by decide +kernel
theorem dX4_leans_65 : decode cX4_leans 65 = .ok (.iload_n 3, 1) := by decide +kernel
theorem dX4_leans_66 : decode cX4_leans 66 = .ok (.istore_n 3, 1) := by decide +kernel
theorem dX4_leans_67 : decode cX4_leans 67 = .ok (.iinc 4 1, 3) := by decide +kernel
theorem dX4_leans_70 : decode cX4_leans 70 = .ok (.goto (-55), 3) := by decide +kernel
theorem dX4_leans_73 : decode cX4_leans 73 = .ok (.bipush 10, 2) := by decide +kernel
theorem dX4_leans_75 : decode cX4_leans 75 = .ok (.iload_n 2, 1) := by decide +kernel
theorem dX4_leans_76 : decode cX4_leans 76 = .ok (.imul, 1) := by decide +kernel
theorem dX4_leans_77 : decode cX4_leans 77 = .ok (.iload_n 3, 1) := by decide +kernel
theorem dX4_leans_78 : decode cX4_leans 78 = .ok (.iadd, 1) := by decide +kernel
theorem dX4_leans_79 : decode cX4_leans 79 = .ok (.ireturn, 1) := by decide +kernel
theorem dX4_copyTo_0 : decode cX4_copyTo 0 = .ok (.aload_n 1, 1) := by decide +kernel
theorem dX4_copyTo_1 : decode cX4_copyTo 1 = .ok (.iconst 0, 1) := by decide +kernel
theorem dX4_copyTo_2 : decode cX4_copyTo 2 = .ok (.aload_n 0, 1) := by decide +kernel
theorem dX4_copyTo_3 : decode cX4_copyTo 3 = .ok (.getfield 11, 3) := by decide +kernel
theorem dX4_copyTo_6 : decode cX4_copyTo 6 = .ok (.iastore, 1) := by decide +kernel
theorem dX4_copyTo_7 : decode cX4_copyTo 7 = .ok (.aload_n 1, 1) := by decide +kernel
theorem dX4_copyTo_8 : decode cX4_copyTo 8 = .ok (.iconst 1, 1) := by decide +kernel
theorem dX4_copyTo_9 : decode cX4_copyTo 9 = .ok (.aload_n 0, 1) := by decide +kernel
theorem dX4_copyTo_10 : decode cX4_copyTo 10 = .ok (.getfield 15, 3) := by decide +kernel
theorem dX4_copyTo_13 : decode cX4_copyTo 13 = .ok (.iastore, 1) := by decide +kernel
theorem dX4_copyTo_14 : decode cX4_copyTo 14 = .ok (.aload_n 1, 1) := by decide +kernel
theorem dX4_copyTo_15 : decode cX4_copyTo 15 = .ok (.iconst 2, 1) := by decide +kernel
theorem dX4_copyTo_16 : decode cX4_copyTo 16 = .ok (.aload_n 0, 1) := by decide +kernel
theorem dX4_copyTo_17 : decode cX4_copyTo 17 = .ok (.getfield 18, 3) := by decide +kernel
theorem dX4_copyTo_20 : decode cX4_copyTo 20 = .ok (.iastore, 1) := by decide +kernel
theorem dX4_copyTo_21 : decode cX4_copyTo 21 = .ok (.aload_n 1, 1) := by decide +kernel
theorem dX4_copyTo_22 : decode cX4_copyTo 22 = .ok (.iconst 3, 1) := by decide +kernel
theorem dX4_copyTo_23 : decode cX4_copyTo 23 = .ok (.aload_n 0, 1) := by decide +kernel
theorem dX4_copyTo_24 : decode cX4_copyTo 24 = .ok (.getfield 21, 3) := by decide +kernel
theorem dX4_copyTo_27 : decode cX4_copyTo 27 = .ok (.iastore, 1) := by decide +kernel
theorem dX4_copyTo_28 : decode cX4_copyTo 28 = .ok (.aload_n 0, 1) := by decide +kernel
theorem dX4_copyTo_29 : decode cX4_copyTo 29 = .ok (.getfield 24, 3) := by decide +kernel
theorem dX4_copyTo_32 : decode cX4_copyTo 32 = .ok (.iconst 0, 1) := by decide +kernel
theorem dX4_copyTo_33 : decode cX4_copyTo 33 = .ok (.aload_n 1, 1) := by decide +kernel
theorem dX4_copyTo_34 : decode cX4_copyTo 34 = .ok (.iconst 4, 1) := by decide +kernel
theorem dX4_copyTo_35 : decode cX4_copyTo 35 = .ok (.iconst 5, 1) := by decide +kernel
theorem dX4_copyTo_36 : decode cX4_copyTo 36 = .ok (.invokestatic 61, 3) := by decide +kernel
theorem dX4_copyTo_39 : decode cX4_copyTo 39 = .ok (.aload_n 0, 1) := by decide +kernel
theorem dX4_copyTo_40 : decode cX4_copyTo 40 = .ok (.getfield 28, 3) := by decide +kernel
theorem dX4_copyTo_43 : decode cX4_copyTo 43 = .ok (.iconst 0, 1) := by decide +kernel
theorem dX4_copyTo_44 : decode cX4_copyTo 44 = .ok (.aload_n 1, 1) := by decide +kernel
theorem dX4_copyTo_45 : decode cX4_copyTo 45 = .ok (.bipush 9, 2) := by decide +kernel
theorem dX4_copyTo_47 : decode cX4_copyTo 47 = .ok (.iconst 5, 1) := by decide +kernel
theorem dX4_copyTo_48 : decode cX4_copyTo 48 = .ok (.invokestatic 61, 3) := by decide +kernel
theorem dX4_copyTo_51 : decode cX4_copyTo 51 = .ok (.return_, 1) := by decide +kernel
theorem dX4_copyFrom_0 : decode cX4_copyFrom 0 = .ok (.aload_n 0, 1) := by decide +kernel
theorem dX4_copyFrom_1 : decode cX4_copyFrom 1 = .ok (.aload_n 1, 1) := by decide +kernel
theorem dX4_copyFrom_2 : decode cX4_copyFrom 2 = .ok (.iconst 0, 1) := by decide +kernel
theorem dX4_copyFrom_3 : decode cX4_copyFrom 3 = .ok (.iaload, 1) := by decide +kernel
theorem dX4_copyFrom_4 : decode cX4_copyFrom 4 = .ok (.putfield 11, 3) := by decide +kernel
theorem dX4_copyFrom_7 : decode cX4_copyFrom 7 = .ok (.aload_n 0, 1) := by decide +kernel
theorem dX4_copyFrom_8 : decode cX4_copyFrom 8 = .ok (.aload_n 1, 1) := by decide +kernel
theorem dX4_copyFrom_9 : decode cX4_copyFrom 9 = .ok (.iconst 1, 1) := by decide +kernel
theorem dX4_copyFrom_10 : decode cX4_copyFrom 10 = .ok (.iaload, 1) := by decide +kernel
theorem dX4_copyFrom_11 : decode cX4_copyFrom 11 = .ok (.putfield 15, 3) := by decide +kernel
theorem dX4_copyFrom_14 : decode cX4_copyFrom 14 = .ok (.aload_n 0, 1) := by decide +kernel
theorem dX4_copyFrom_15 : decode cX4_copyFrom 15 = .ok (.aload_n 1, 1) := by decide +kernel
theorem dX4_copyFrom_16 : decode cX4_copyFrom 16 = .ok (.iconst 2, 1) := by decide +kernel
theorem dX4_copyFrom_17 : decode cX4_copyFrom 17 = .ok (.iaload, 1) := by decide +kernel
theorem dX4_copyFrom_18 : decode cX4_copyFrom 18 = .ok (.putfield 18, 3) := by decide +kernel
theorem dX4_copyFrom_21 : decode cX4_copyFrom 21 = .ok (.aload_n 0, 1) := by decide +kernel
theorem dX4_copyFrom_22 : decode cX4_copyFrom 22 = .ok (.aload_n 1, 1) := by decide +kernel
theorem dX4_copyFrom_23 : decode cX4_copyFrom 23 = .ok (.iconst 3, 1) := by decide +kernel
theorem dX4_copyFrom_24 : decode cX4_copyFrom 24 = .ok (.iaload, 1) := by decide +kernel
theorem dX4_copyFrom_25 : decode cX4_copyFrom 25 = .ok (.putfield 21, 3) := by decide +kernel
theorem dX4_copyFrom_28 : decode cX4_copyFrom 28 = .ok (.aload_n 1, 1) := by decide +kernel
theorem dX4_copyFrom_29 : decode cX4_copyFrom 29 = .ok (.iconst 4, 1) := by decide +kernel
theorem dX4_copyFrom_30 : decode cX4_copyFrom 30 = .ok (.aload_n 0, 1) := by decide +kernel
theorem dX4_copyFrom_31 : decode cX4_copyFrom 31 = .ok (.getfield 24, 3) := by decide +kernel
theorem dX4_copyFrom_34 : decode cX4_copyFrom 34 = .ok (.iconst 0, 1) := by decide +kernel
theorem dX4_copyFrom_35 : decode cX4_copyFrom 35 = .ok (.iconst 5, 1) := by decide +kernel
theorem dX4_copyFrom_36 : decode cX4_copyFrom 36 = .ok (.invokestatic 61, 3) := by decide +kernel
theorem dX4_copyFrom_39 : decode cX4_copyFrom 39 = .ok (.aload_n 1, 1) := by decide +kernel
theorem dX4_copyFrom_40 : decode cX4_copyFrom 40 = .ok (.bipush 9, 2) := by decide +kernel
theorem dX4_copyFrom_42 : decode cX4_copyFrom 42 = .ok (.aload_n 0, 1) := by decide +kernel
theorem dX4_copyFrom_43 : decode cX4_copyFrom 43 = .ok (.getfield 28, 3) := by decide +kernel
theorem dX4_copyFrom_46 : decode cX4_copyFrom 46 = .ok (.iconst 0, 1) := by decide +kernel
theorem dX4_copyFrom_47 : decode cX4_copyFrom 47 = .ok (.iconst 5, 1) := by decide +kernel
theorem dX4_copyFrom_48 : decode cX4_copyFrom 48 = .ok (.invokestatic 61, 3) := by decide +kernel
theorem dX4_copyFrom_51 : decode cX4_copyFrom 51 = .ok (.return_, 1) := by decide +kernel
theorem dX5_init_0 : decode cX5_init 0 = .ok (.aload_n 0, 1) := by decide +kernel
theorem dX5_init_1 : decode cX5_init 1 = .ok (.invokespecial 3, 3) := by decide +kernel
theorem dX5_init_4 : decode cX5_init 4 = .ok (.aload_n 0, 1) := by decide +kernel
theorem dX5_init_5 : decode cX5_init 5 = .ok (.iconst 4, 1) := by decide +kernel
theorem dX5_init_6 : decode cX5_init 6 = .ok (.newarray .int, 2) := by decide +kernel
theorem dX5_init_8 : decode cX5_init 8 = .ok (.putfield 9, 3) := by decide +kernel
theorem dX5_init_11 : decode cX5_init 11 = .ok (.aload_n 0, 1) := by decide +kernel
theorem dX5_init_12 : decode cX5_init 12 = .ok (.iconst 4, 1) := by decide +kernel
theorem dX5_init_13 : decode cX5_init 13 = .ok (.newarray .int, 2) := by decide +kernel
theorem dX5_init_15 : decode cX5_init 15 = .ok (.putfield 15, 3) := by decide +kernel
theorem dX5_init_18 : decode cX5_init 18 = .ok (.aload_n 0, 1) := by decide +kernel
theorem dX5_init_19 : decode cX5_init 19 = .ok (.iconst 5, 1) := by decide +kernel
theorem dX5_init_20 : decode cX5_init 20 = .ok (.bipush 32, 2) := by decide +kernel
theorem dX5_init_22 : decode cX5_init 22 = .ok (.multianewarray 18 2, 4) := by decide +kernel
theorem dX5_init_26 : decode cX5_init 26 = .ok (.putfield 20, 3) := by decide +kernel
theorem dX5_init_29 : decode cX5_init 29 = .ok (.aload_n 0, 1) := by decide +kernel
theorem dX5_init_30 : decode cX5_init 30 = .ok (.iconst 5, 1) := by decide +kernel
theorem dX5_init_31 : decode cX5_init 31 = .ok (.iconst 5, 1) := by decide +kernel
theorem dX5_init_32 : decode cX5_init 32 = .ok (.multianewarray 18 2, 4) := by decide +kernel
theorem dX5_init_36 : decode cX5_init 36 = .ok (.putfield 23, 3) := by decide +kernel
theorem dX5_init_39 : decode cX5_init 39 = .ok (.aload_n 0, 1) := by decide +kernel
theorem dX5_init_40 : decode cX5_init 40 = .ok (.iconst 0, 1) := by decide +kernel
theorem dX5_init_41 : decode cX5_init 41 = .ok (.putfield 26, 3) := by decide +kernel
theorem dX5_init_44 : decode cX5_init 44 = .ok (.aload_n 0, 1) := by decide +kernel
theorem dX5_init_45 : decode cX5_init 45 = .ok (.iconst 0, 1) := by decide +kernel
theorem dX5_init_46 : decode cX5_init 46 = .ok (.putfield 30, 3) := by decide +kernel
theorem dX5_init_49 : decode cX5_init 49 = .ok (.aload_n 0, 1) := by decide +kernel
theorem dX5_init_50 : decode cX5_init 50 = .ok (.iconst 0, 1) := by decide +kernel
theorem dX5_init_51 : decode cX5_init 51 = .ok (.putfield 33, 3) := by decide +kernel
theorem dX5_init_54 : decode cX5_init 54 = .ok (.return_, 1) := by decide +kernel
theorem dX5_missed_0 : decode cX5_missed 0 = .ok (.aload_n 0, 1) := by decide +kernel
theorem dX5_missed_1 : decode cX5_missed 1 = .ok (.getfield 26, 3) := by decide +kernel
theorem dX5_missed_4 : decode cX5_missed 4 = .ok (.bipush 100, 2) := by decide +kernel
theorem dX5_missed_6 : decode cX5_missed 6 = .ok (.idiv, 1) := by decide +kernel
theorem dX5_missed_7 : decode cX5_missed 7 = .ok (.ireturn, 1) := by decide +kernel
theorem dX5_out_0 : decode cX5_out 0 = .ok (.aload_n 0, 1) := by decide +kernel
theorem dX5_out_1 : decode cX5_out 1 = .ok (.getfield 26, 3) := by decide +kernel
theorem dX5_out_4 : decode cX5_out 4 = .ok (.bipush 100, 2) := by decide +kernel
theorem dX5_out_6 : decode cX5_out 6 = .ok (.irem, 1) := by decide +kernel
theorem dX5_out_7 : decode cX5_out 7 = .ok (.bipush 10, 2) := by decide +kernel
theorem dX5_out_9 : decode cX5_out 9 = .ok (.idiv, 1) := by decide +kernel
theorem dX5_out_10 : decode cX5_out 10 = .ok (.ireturn, 1) := by decide +kernel
theorem dX5_gotUp_0 : decode cX5_gotUp 0 = .ok (.aload_n 0, 1) := by decide +kernel
theorem dX5_gotUp_1 : decode cX5_gotUp 1 = .ok (.getfield 26, 3) := by decide +kernel
theorem dX5_gotUp_4 : decode cX5_gotUp 4 = .ok (.bipush 10, 2) := by decide +kernel
theorem dX5_gotUp_6 : decode cX5_gotUp 6 = .ok (.irem, 1) := by decide +kernel
theorem dX5_gotUp_7 : decode cX5_gotUp 7 = .ok (.ireturn, 1) := by decide +kernel
theorem dX5_make_0 : decode cX5_make 0 = .ok (.aload_n 0, 1) := by decide +kernel
theorem dX5_make_1 : decode cX5_make 1 = .ok (.iload_n 3, 1) := by decide +kernel
theorem dX5_make_2 : decode cX5_make 2 = .ok (.putfield 30, 3) := by decide +kernel
theorem dX5_make_5 : decode cX5_make 5 = .ok (.aload_n 0, 1) := by decide +kernel
theorem dX5_make_6 : decode cX5_make 6 = .ok (.aload_n 2, 1) := by decide +kernel
theorem dX5_make_7 : decode cX5_make 7 = .ok (.getfield 36, 3) := by decide +kernel
theorem dX5_make_10 : decode cX5_make 10 = .ok (.putfield 33, 3) := by decide +kernel
theorem dX5_make_13 : decode cX5_make 13 = .ok (.aload_n 0, 1) := by decide +kernel
theorem dX5_make_14 : decode cX5_make 14 = .ok (.iconst 0, 1) := by decide +kernel
theorem dX5_make_15 : decode cX5_make 15 = .ok (.putfield 26, 3) := by decide +kernel
theorem dX5_make_18 : decode cX5_make 18 = .ok (.iconst 0, 1) := by decide +kernel
theorem dX5_make_19 : decode cX5_make 19 = .ok (.istore 4, 2) := by decide +kernel
theorem dX5_make_21 : decode cX5_make 21 = .ok (.iload 4, 2) := by decide +kernel
theorem dX5_make_23 : decode cX5_make 23 = .ok (.aload_n 1, 1) := by decide +kernel
theorem dX5_make_24 : decode cX5_make 24 = .ok (.getfield 41, 3) := by decide +kernel
theorem dX5_make_27 : decode cX5_make 27 = .ok (.if_icmp .ge 45, 3) := by decide +kernel
theorem dX5_make_30 : decode cX5_make 30 = .ok (.aload_n 0, 1) := by decide +kernel
theorem dX5_make_31 : decode cX5_make 31 = .ok (.getfield 23, 3) := by decide +kernel
theorem dX5_make_34 : decode cX5_make 34 = .ok (.iconst 0, 1) := by decide +kernel
theorem dX5_make_35 : decode cX5_make 35 = .ok (.aaload, 1) := by decide +kernel
theorem dX5_make_36 : decode cX5_make 36 = .ok (.iload 4, 2) := by decide +kernel
theorem dX5_make_38 : decode cX5_make 38 = .ok (.iconst 1, 1) := by decide +kernel
theorem dX5_make_39 : decode cX5_make 39 = .ok (.iastore, 1) := by decide +kernel
theorem dX5_make_40 : decode cX5_make 40 = .ok (.aload_n 0, 1) := by decide +kernel
theorem dX5_make_41 : decode cX5_make 41 = .ok (.dup, 1) := by decide +kernel
theorem dX5_make_42 : decode cX5_make 42 = .ok (.getfield 26, 3) := by decide +kernel
theorem dX5_make_45 : decode cX5_make 45 = .ok (.aload_n 0, 1) := by decide +kernel
theorem dX5_make_46 : decode cX5_make 46 = .ok (.aload_n 1, 1) := by decide +kernel
theorem dX5_make_47 : decode cX5_make 47 = .ok (.iload 4, 2) := by decide +kernel
theorem dX5_make_49 : decode cX5_make 49 = .ok (.iconst 1, 1) := by decide +kernel
theorem dX5_make_50 : decode cX5_make 50 = .ok (.iconst 0, 1) := by decide +kernel
theorem dX5_make_51 : decode cX5_make 51 = .ok (.aload_n 2, 1) := by decide +kernel
theorem dX5_make_52 : decode cX5_make 52 = .ok (.getfield 46, 3) := by decide +kernel
theorem dX5_make_55 : decode cX5_make 55 = .ok (.iload 4, 2) := by decide +kernel
theorem dX5_make_57 : decode cX5_make 57 = .ok (.iaload, 1) := by decide +kernel
theorem dX5_make_58 : decode cX5_make 58 = .ok (.iconst 0, 1) := by decide +kernel
theorem dX5_make_59 : decode cX5_make 59 = .ok (.invokevirtual 49, 3) := by decide +kernel
theorem dX5_make_62 : decode cX5_make 62 = .ok (.iadd, 1) := by decide +kernel
theorem dX5_make_63 : decode cX5_make 63 = .ok (.putfield 26, 3) := by decide +kernel
theorem dX5_make_66 : decode cX5_make 66 = .ok (.iinc 4 1, 3) := by decide +kernel
theorem dX5_make_69 : decode cX5_make 69 = .ok (.goto (-48), 3) := by decide +kernel
theorem dX5_make_72 : decode cX5_make 72 = .ok (.iload_n 3, 1) := by decide +kernel
theorem dX5_make_73 : decode cX5_make 73 = .ok (.ifCond .le 20, 3) := by decide +kernel
theorem dX5_make_76 : decode cX5_make 76 = .ok (.aload_n 0, 1) := by decide +kernel
theorem dX5_make_77 : decode cX5_make 77 = .ok (.ldc 55, 2) := by decide +kernel
theorem dX5_make_79 : decode cX5_make 79 = .ok (.putfield 26, 3) := by decide +kernel
theorem dX5_make_82 : decode cX5_make 82 = .ok (.aload_n 0, 1) := by decide +kernel
theorem dX5_make_83 : decode cX5_make 83 = .ok (.aload_n 1, 1) := by decide +kernel
theorem dX5_make_84 : decode cX5_make 84 = .ok (.iconst 0, 1) := by decide +kernel
theorem dX5_make_85 : decode cX5_make 85 = .ok (.aload_n 2, 1) := by decide +kernel
theorem dX5_make_86 : decode cX5_make 86 = .ok (.getfield 56, 3) := by decide +kernel
theorem dX5_make_89 : decode cX5_make 89 = .ok (.iconst 0, 1) := by decide +kernel
theorem dX5_make_90 : decode cX5_make 90 = .ok (.invokevirtual 59, 3) := by decide +kernel
theorem dX5_make_93 : decode cX5_make 93 = .ok (.return_, 1) := by decide +kernel
theorem dX5_fillTree_0 : decode cX5_fillTree 0 = .ok (.iload 4, 2) := by decide +kernel
theorem dX5_fillTree_2 : decode cX5_fillTree 2 = .ok (.aload_n 0, 1) := by decide +kernel
theorem dX5_fillTree_3 : decode cX5_fillTree 3 = .ok (.getfield 30, 3) := by decide +kernel
theorem dX5_fillTree_6 : decode cX5_fillTree 6 = .ok (.if_icmp .lt 22, 3) := by decide +kernel
theorem dX5_fillTree_9 : decode cX5_fillTree 9 = .ok (.iload 6, 2) := by decide +kernel
theorem dX5_fillTree_11 : decode cX5_fillTree 11 = .ok (.iload 5, 2) := by decide +kernel
theorem dX5_fillTree_13 : decode cX5_fillTree 13 = .ok (.ifCond .ne 8, 3) := by decide +kernel
theorem dX5_fillTree_16 : decode cX5_fillTree 16 = .ok (.bipush 10, 2) := by decide +kernel
theorem dX5_fillTree_18 : decode cX5_fillTree 18 = .ok (.goto 4, 3) := by decide +kernel
theorem dX5_fillTree_21 : decode cX5_fillTree 21 = .ok (.iconst 0, 1) := by decide +kernel
theorem dX5_fillTree_22 : decode cX5_fillTree 22 = .ok (.iadd, 1) := by decide +kernel
theorem dX5_fillTree_23 : decode cX5_fillTree 23 = .ok (.istore 7, 2) := by decide +kernel
theorem dX5_fillTree_25 : decode cX5_fillTree 25 = .ok (.goto 94, 3) := by decide +kernel
theorem dX5_fillTree_28 : decode cX5_fillTree 28 = .ok (.aload_n 0, 1) := by decide +kernel
theorem dX5_fillTree_29 : decode cX5_fillTree 29 = .ok (.getfield 33, 3) := by decide +kernel
theorem dX5_fillTree_32 : decode cX5_fillTree 32 = .ok (.iload 4, 2) := by decide +kernel
theorem dX5_fillTree_34 : decode cX5_fillTree 34 = .ok (.iadd, 1) := by decide +kernel
theorem dX5_fillTree_35 : decode cX5_fillTree 35 = .ok (.istore 8, 2) := by decide +kernel
theorem dX5_fillTree_37 : decode cX5_fillTree 37 = .ok (.iload 6, 2) := by decide +kernel
theorem dX5_fillTree_39 : decode cX5_fillTree 39 = .ok (.aload_n 1, 1) := by decide +kernel
theorem dX5_fillTree_40 : decode cX5_fillTree 40 = .ok (.iload 8, 2) := by decide +kernel
theorem dX5_fillTree_42 : decode cX5_fillTree 42 = .ok (.iload_n 2, 1) := by decide +kernel
theorem dX5_fillTree_43 : decode cX5_fillTree 43 = .ok (.iload 5, 2) := by decide +kernel
theorem dX5_fillTree_45 : decode cX5_fillTree 45 = .ok (.invokevirtual 63, 3) := by decide +kernel
theorem dX5_fillTree_48 : decode cX5_fillTree 48 = .ok (.bipush 100, 2) := by decide +kernel
theorem dX5_fillTree_50 : decode cX5_fillTree 50 = .ok (.imul, 1) := by decide +kernel
theorem dX5_fillTree_51 : decode cX5_fillTree 51 = .ok (.iadd, 1) := by decide +kernel
theorem dX5_fillTree_52 : decode cX5_fillTree 52 = .ok (.istore 9, 2) := by decide +kernel
theorem dX5_fillTree_54 : decode cX5_fillTree 54 = .ok (.aload_n 1, 1) := by decide +kernel
theorem dX5_fillTree_55 : decode cX5_fillTree 55 = .ok (.iload 8, 2) := by decide +kernel
theorem dX5_fillTree_57 : decode cX5_fillTree 57 = .ok (.iload_n 2, 1) := by decide +kernel
theorem dX5_fillTree_58 : decode cX5_fillTree 58 = .ok (.iload 5, 2) := by decide +kernel
theorem dX5_fillTree_60 : decode cX5_fillTree 60 = .ok (.iconst 0, 1) := by decide +kernel
theorem dX5_fillTree_61 : decode cX5_fillTree 61 = .ok (.invokevirtual 67, 3) := by decide +kernel
theorem dX5_fillTree_64 : decode cX5_fillTree 64 = .ok (.istore 10, 2) := by decide +kernel
theorem dX5_fillTree_66 : decode cX5_fillTree 66 = .ok (.aload_n 1, 1) := by decide +kernel
theorem dX5_fillTree_67 : decode cX5_fillTree 67 = .ok (.iload 8, 2) := by decide +kernel
theorem dX5_fillTree_69 : decode cX5_fillTree 69 = .ok (.iload_n 2, 1) := by decide +kernel
theorem dX5_fillTree_70 : decode cX5_fillTree 70 = .ok (.iload 5, 2) := by decide +kernel
theorem dX5_fillTree_72 : decode cX5_fillTree 72 = .ok (.iconst 1, 1) := by decide +kernel
theorem dX5_fillTree_73 : decode cX5_fillTree 73 = .ok (.invokevirtual 67, 3) := by decide +kernel
theorem dX5_fillTree_76 : decode cX5_fillTree 76 = .ok (.istore 11, 2) := by decide +kernel
theorem dX5_fillTree_78 : decode cX5_fillTree 78 = .ok (.aload_n 0, 1) := by decide +kernel
theorem dX5_fillTree_79 : decode cX5_fillTree 79 = .ok (.aload_n 1, 1) := by decide +kernel
theorem dX5_fillTree_80 : decode cX5_fillTree 80 = .ok (.iload_n 2, 1) := by decide +kernel
theorem dX5_fillTree_81 : decode cX5_fillTree 81 = .ok (.iconst 2, 1) := by decide +kernel
theorem dX5_fillTree_82 : decode cX5_fillTree 82 = .ok (.iload_n 3, 1) := by decide +kernel
theorem dX5_fillTree_83 : decode cX5_fillTree 83 = .ok (.imul, 1) := by decide +kernel
theorem dX5_fillTree_84 : decode cX5_fillTree 84 = .ok (.iload 4, 2) := by decide +kernel
theorem dX5_fillTree_86 : decode cX5_fillTree 86 = .ok (.iconst 1, 1) := by decide +kernel
theorem dX5_fillTree_87 : decode cX5_fillTree 87 = .ok (.iadd, 1) := by decide +kernel
theorem dX5_fillTree_88 : decode cX5_fillTree 88 = .ok (.iload 10, 2) := by decide +kernel
theorem dX5_fillTree_90 : decode cX5_fillTree 90 = .ok (.iload 9, 2) := by decide +kernel
theorem dX5_fillTree_92 : decode cX5_fillTree 92 = .ok (.invokevirtual 49, 3) := by decide +kernel
theorem dX5_fillTree_95 : decode cX5_fillTree 95 = .ok (.aload_n 0, 1) := by decide +kernel
theorem dX5_fillTree_96 : decode cX5_fillTree 96 = .ok (.aload_n 1, 1) := by decide +kernel
theorem dX5_fillTree_97 : decode cX5_fillTree 97 = .ok (.iload_n 2, 1) := by decide +kernel
theorem dX5_fillTree_98 : decode cX5_fillTree 98 = .ok (.iconst 2, 1) := by decide +kernel
theorem dX5_fillTree_99 : decode cX5_fillTree 99 = .ok (.iload_n 3, 1) := by decide +kernel
theorem dX5_fillTree_100 : decode cX5_fillTree 100 = .ok (.imul, 1) := by decide +kernel
theorem dX5_fillTree_101 : decode cX5_fillTree 101 = .ok (.iconst 1, 1) := by decide +kernel
theorem dX5_fillTree_102 : decode cX5_fillTree 102 = .ok (.iadd, 1) := by decide +kernel
theorem dX5_fillTree_103 : decode cX5_fillTree 103 = .ok (.iload 4, 2) := by decide +kernel
theorem dX5_fillTree_105 : decode cX5_fillTree 105 = .ok (.iconst 1, 1) := by decide +kernel
theorem dX5_fillTree_106 : decode cX5_fillTree 106 = .ok (.iadd, 1) := by decide +kernel
theorem dX5_fillTree_107 : decode cX5_fillTree 107 = .ok (.iload 11, 2) := by decide +kernel
theorem dX5_fillTree_109 : decode cX5_fillTree 109 = .ok (.iload 9, 2) := by decide +kernel
theorem dX5_fillTree_111 : decode cX5_fillTree 111 = .ok (.invokevirtual 49, 3) := by decide +kernel
theorem dX5_fillTree_114 : decode cX5_fillTree 114 = .ok (.invokestatic 71, 3) := by decide +kernel
theorem dX5_fillTree_117 : decode cX5_fillTree 117 = .ok (.istore 7, 2) := by decide +kernel
theorem dX5_fillTree_119 : decode cX5_fillTree 119 = .ok (.aload_n 0, 1) := by decide +kernel
theorem dX5_fillTree_120 : decode cX5_fillTree 120 = .ok (.getfield 20, 3) := by decide +kernel
theorem dX5_fillTree_123 : decode cX5_fillTree 123 = .ok (.iload_n 2, 1) := by decide +kernel
theorem dX5_fillTree_124 : decode cX5_fillTree 124 = .ok (.aaload, 1) := by decide +kernel
theorem dX5_fillTree_125 : decode cX5_fillTree 125 = .ok (.iload_n 3, 1) := by decide +kernel
theorem dX5_fillTree_126 : decode cX5_fillTree 126 = .ok (.iload 7, 2) := by decide +kernel
theorem dX5_fillTree_128 : decode cX5_fillTree 128 = .ok (.iastore, 1) := by decide +kernel
theorem dX5_fillTree_129 : decode cX5_fillTree 129 = .ok (.iload 7, 2) := by decide +kernel
theorem dX5_fillTree_131 : decode cX5_fillTree 131 = .ok (.ireturn, 1) := by decide +kernel
theorem dX5_search_0 : decode cX5_search 0 = .ok (.iload_n 2, 1) := by decide +kernel
theorem dX5_search_1 : decode cX5_search 1 = .ok (.aload_n 0, 1) := by decide +kernel
theorem dX5_search_2 : decode cX5_search 2 = .ok (.getfield 30, 3) := by decide +kernel
theorem dX5_search_5 : decode cX5_search 5 = .ok (.if_icmp .lt 4, 3) := by decide +kernel
theorem dX5_search_8 : decode cX5_search 8 = .ok (.return_, 1) := by decide +kernel
theorem dX5_search_9 : decode cX5_search 9 = .ok (.iconst 0, 1) := by decide +kernel
theorem dX5_search_10 : decode cX5_search 10 = .ok (.istore 5, 2) := by decide +kernel
theorem dX5_search_12 : decode cX5_search 12 = .ok (.iload 5, 2) := by decide +kernel
theorem dX5_search_14 : decode cX5_search 14 = .ok (.iconst 1, 1) := by decide +kernel
theorem dX5_search_15 : decode cX5_search 15 = .ok (.aload_n 1, 1) := by decide +kernel
theorem dX5_search_16 : decode cX5_search 16 = .ok (.getfield 41, 3) := by decide +kernel
theorem dX5_search_19 : decode cX5_search 19 = .ok (.ishl, 1) := by decide +kernel
theorem dX5_search_20 : decode cX5_search 20 = .ok (.if_icmp .ge 82, 3) := by decide +kernel
theorem dX5_search_23 : decode cX5_search 23 = .ok (.aload_n 1, 1) := by decide +kernel
theorem dX5_search_24 : decode cX5_search 24 = .ok (.iload 5, 2) := by decide +kernel
theorem dX5_search_26 : decode cX5_search 26 = .ok (.invokevirtual 77, 3) := by decide +kernel
theorem dX5_search_29 : decode cX5_search 29 = .ok (.ifCond .eq 67, 3) := by decide +kernel
theorem dX5_search_32 : decode cX5_search 32 = .ok (.iload 5, 2) := by decide +kernel
theorem dX5_search_34 : decode cX5_search 34 = .ok (.iload_n 3, 1) := by decide +kernel
theorem dX5_search_35 : decode cX5_search 35 = .ok (.if_icmp .ne 8, 3) := by decide +kernel
theorem dX5_search_38 : decode cX5_search 38 = .ok (.iload 4, 2) := by decide +kernel
theorem dX5_search_40 : decode cX5_search 40 = .ok (.goto 7, 3) := by decide +kernel
theorem dX5_search_43 : decode cX5_search 43 = .ok (.iload 4, 2) := by decide +kernel
theorem dX5_search_45 : decode cX5_search 45 = .ok (.iconst 1, 1) := by decide +kernel
theorem dX5_search_46 : decode cX5_search 46 = .ok (.iadd, 1) := by decide +kernel
theorem dX5_search_47 : decode cX5_search 47 = .ok (.istore 6, 2) := by decide +kernel
theorem dX5_search_49 : decode cX5_search 49 = .ok (.iload 6, 2) := by decide +kernel
theorem dX5_search_51 : decode cX5_search 51 = .ok (.aload_n 0, 1) := by decide +kernel
theorem dX5_search_52 : decode cX5_search 52 = .ok (.aload_n 1, 1) := by decide +kernel
theorem dX5_search_53 : decode cX5_search 53 = .ok (.getfield 41, 3) := by decide +kernel
theorem dX5_search_56 : decode cX5_search 56 = .ok (.iload_n 2, 1) := by decide +kernel
theorem dX5_search_57 : decode cX5_search 57 = .ok (.iload 5, 2) := by decide +kernel
theorem dX5_search_59 : decode cX5_search 59 = .ok (.invokevirtual 81, 3) := by decide +kernel
theorem dX5_search_62 : decode cX5_search 62 = .ok (.iadd, 1) := by decide +kernel
theorem dX5_search_63 : decode cX5_search 63 = .ok (.istore 7, 2) := by decide +kernel
theorem dX5_search_65 : decode cX5_search 65 = .ok (.iload 7, 2) := by decide +kernel
theorem dX5_search_67 : decode cX5_search 67 = .ok (.aload_n 0, 1) := by decide +kernel
theorem dX5_search_68 : decode cX5_search 68 = .ok (.getfield 26, 3) := by decide +kernel
theorem dX5_search_71 : decode cX5_search 71 = .ok (.if_icmp .ge 25, 3) := by decide +kernel
theorem dX5_search_74 : decode cX5_search 74 = .ok (.aload_n 0, 1) := by decide +kernel
theorem dX5_search_75 : decode cX5_search 75 = .ok (.getfield 15, 3) := by decide +kernel
theorem dX5_search_78 : decode cX5_search 78 = .ok (.iload_n 2, 1) := by decide +kernel
theorem dX5_search_79 : decode cX5_search 79 = .ok (.iload 5, 2) := by decide +kernel
theorem dX5_search_81 : decode cX5_search 81 = .ok (.iastore, 1) := by decide +kernel
theorem dX5_search_82 : decode cX5_search 82 = .ok (.aload_n 0, 1) := by decide +kernel
theorem dX5_search_83 : decode cX5_search 83 = .ok (.aload_n 1, 1) := by decide +kernel
theorem dX5_search_84 : decode cX5_search 84 = .ok (.iload_n 2, 1) := by decide +kernel
theorem dX5_search_85 : decode cX5_search 85 = .ok (.iconst 1, 1) := by decide +kernel
theorem dX5_search_86 : decode cX5_search 86 = .ok (.iadd, 1) := by decide +kernel
theorem dX5_search_87 : decode cX5_search 87 = .ok (.iload 5, 2) := by decide +kernel
theorem dX5_search_89 : decode cX5_search 89 = .ok (.iload 6, 2) := by decide +kernel
theorem dX5_search_91 : decode cX5_search 91 = .ok (.iload 7, 2) := by decide +kernel
theorem dX5_search_93 : decode cX5_search 93 = .ok (.invokevirtual 84, 3) := by decide +kernel
theorem dX5_search_96 : decode cX5_search 96 = .ok (.iinc 5 1, 3) := by decide +kernel
theorem dX5_search_99 : decode cX5_search 99 = .ok (.goto (-87), 3) := by decide +kernel
theorem dX5_search_102 : decode cX5_search 102 = .ok (.return_, 1) := by decide +kernel
theorem dX5_settleOrSearch_0 : decode cX5_settleOrSearch 0 = .ok (.iload_n 2, 1) := by decide +kernel
theorem dX5_settleOrSearch_1 : decode cX5_settleOrSearch 1 = .ok (.aload_n 0, 1) := by decide +kernel
theorem dX5_settleOrSearch_2 : decode cX5_settleOrSearch 2 = .ok (.getfield 30, 3) := by decide +kernel
theorem dX5_settleOrSearch_5 : decode cX5_settleOrSearch 5 = .ok (.if_icmp .ge 15, 3) := by decide +kernel
theorem dX5_settleOrSearch_8 : decode cX5_settleOrSearch 8 = .ok (.aload_n 0, 1) := by decide +kernel
theorem dX5_settleOrSearch_9 : decode cX5_settleOrSearch 9 = .ok (.aload_n 1, 1) := by decide +kernel
theorem dX5_settleOrSearch_10 : decode cX5_settleOrSearch 10 = .ok (.iload_n 2, 1) := by decide +kernel
theorem dX5_settleOrSearch_11 : decode cX5_settleOrSearch 11 = .ok (.iload_n 3, 1) := by decide +kernel
theorem dX5_settleOrSearch_12 : decode cX5_settleOrSearch 12 = .ok (.iload 4, 2) := by decide +kernel
theorem dX5_settleOrSearch_14 : decode cX5_settleOrSearch 14 = .ok (.invokevirtual 59, 3) := by decide +kernel
theorem dX5_settleOrSearch_17 : decode cX5_settleOrSearch 17 = .ok (.goto 23, 3) := by decide +kernel
theorem dX5_settleOrSearch_20 : decode cX5_settleOrSearch 20 = .ok (.aload_n 0, 1) := by decide +kernel
theorem dX5_settleOrSearch_21 : decode cX5_settleOrSearch 21 = .ok (.iload 5, 2) := by decide +kernel
theorem dX5_settleOrSearch_23 : decode cX5_settleOrSearch 23 = .ok (.putfield 26, 3) := by decide +kernel
theorem dX5_settleOrSearch_26 : decode cX5_settleOrSearch 26 = .ok (.aload_n 0, 1) := by decide +kernel
theorem dX5_settleOrSearch_27 : decode cX5_settleOrSearch 27 = .ok (.getfield 15, 3) := by decide +kernel
theorem dX5_settleOrSearch_30 : decode cX5_settleOrSearch 30 = .ok (.iconst 0, 1) := by decide +kernel
theorem dX5_settleOrSearch_31 : decode cX5_settleOrSearch 31 = .ok (.aload_n 0, 1) := by decide +kernel
theorem dX5_settleOrSearch_32 : decode cX5_settleOrSearch 32 = .ok (.getfield 9, 3) := by decide +kernel
theorem dX5_settleOrSearch_35 : decode cX5_settleOrSearch 35 = .ok (.iconst 0, 1) := by decide +kernel
theorem dX5_settleOrSearch_36 : decode cX5_settleOrSearch 36 = .ok (.iconst 4, 1) := by decide +kernel
theorem dX5_settleOrSearch_37 : decode cX5_settleOrSearch 37 = .ok (.invokestatic 88, 3) := by decide +kernel
theorem dX5_settleOrSearch_40 : decode cX5_settleOrSearch 40 = .ok (.return_, 1) := by decide +kernel
theorem dX5_enter_0 : decode cX5_enter 0 = .ok (.iconst 0, 1) := by decide +kernel
theorem dX5_enter_1 : decode cX5_enter 1 = .ok (.istore 4, 2) := by decide +kernel
theorem dX5_enter_3 : decode cX5_enter 3 = .ok (.iconst 0, 1) := by decide +kernel
theorem dX5_enter_4 : decode cX5_enter 4 = .ok (.istore 5, 2) := by decide +kernel
theorem dX5_enter_6 : decode cX5_enter 6 = .ok (.iload 5, 2) := by decide +kernel
theorem dX5_enter_8 : decode cX5_enter 8 = .ok (.iload_n 1, 1) := by decide +kernel
theorem dX5_enter_9 : decode cX5_enter 9 = .ok (.if_icmp .ge 57, 3) := by decide +kernel
theorem dX5_enter_12 : decode cX5_enter 12 = .ok (.iconst 2, 1) := by decide +kernel
theorem dX5_enter_13 : decode cX5_enter 13 = .ok (.aload_n 0, 1) := by decide +kernel
theorem dX5_enter_14 : decode cX5_enter 14 = .ok (.getfield 23, 3) := by decide +kernel
theorem dX5_enter_17 : decode cX5_enter 17 = .ok (.iload_n 2, 1) := by decide +kernel
theorem dX5_enter_18 : decode cX5_enter 18 = .ok (.aaload, 1) := by decide +kernel
theorem dX5_enter_19 : decode cX5_enter 19 = .ok (.iload 5, 2) := by decide +kernel
theorem dX5_enter_21 : decode cX5_enter 21 = .ok (.iaload, 1) := by decide +kernel
theorem dX5_enter_22 : decode cX5_enter 22 = .ok (.imul, 1) := by decide +kernel
theorem dX5_enter_23 : decode cX5_enter 23 = .ok (.iload_n 3, 1) := by decide +kernel
theorem dX5_enter_24 : decode cX5_enter 24 = .ok (.iload 5, 2) := by decide +kernel
theorem dX5_enter_26 : decode cX5_enter 26 = .ok (.ishr, 1) := by decide +kernel
theorem dX5_enter_27 : decode cX5_enter 27 = .ok (.iconst 1, 1) := by decide +kernel
theorem dX5_enter_28 : decode cX5_enter 28 = .ok (.iand, 1) := by decide +kernel
theorem dX5_enter_29 : decode cX5_enter 29 = .ok (.iadd, 1) := by decide +kernel
theorem dX5_enter_30 : decode cX5_enter 30 = .ok (.istore 6, 2) := by decide +kernel
theorem dX5_enter_32 : decode cX5_enter 32 = .ok (.aload_n 0, 1) := by decide +kernel
theorem dX5_enter_33 : decode cX5_enter 33 = .ok (.getfield 23, 3) := by decide +kernel
theorem dX5_enter_36 : decode cX5_enter 36 = .ok (.iload_n 2, 1) := by decide +kernel
theorem dX5_enter_37 : decode cX5_enter 37 = .ok (.iconst 1, 1) := by decide +kernel
theorem dX5_enter_38 : decode cX5_enter 38 = .ok (.iadd, 1) := by decide +kernel
theorem dX5_enter_39 : decode cX5_enter 39 = .ok (.aaload, 1) := by decide +kernel
theorem dX5_enter_40 : decode cX5_enter 40 = .ok (.iload 5, 2) := by decide +kernel
theorem dX5_enter_42 : decode cX5_enter 42 = .ok (.iload 6, 2) := by decide +kernel
theorem dX5_enter_44 : decode cX5_enter 44 = .ok (.iastore, 1) := by decide +kernel
theorem dX5_enter_45 : decode cX5_enter 45 = .ok (.iload 4, 2) := by decide +kernel
theorem dX5_enter_47 : decode cX5_enter 47 = .ok (.aload_n 0, 1) := by decide +kernel
theorem dX5_enter_48 : decode cX5_enter 48 = .ok (.getfield 20, 3) := by decide +kernel
theorem dX5_enter_51 : decode cX5_enter 51 = .ok (.iload 5, 2) := by decide +kernel
theorem dX5_enter_53 : decode cX5_enter 53 = .ok (.aaload, 1) := by decide +kernel
theorem dX5_enter_54 : decode cX5_enter 54 = .ok (.iload 6, 2) := by decide +kernel
theorem dX5_enter_56 : decode cX5_enter 56 = .ok (.iaload, 1) := by decide +kernel
theorem dX5_enter_57 : decode cX5_enter 57 = .ok (.iadd, 1) := by decide +kernel
theorem dX5_enter_58 : decode cX5_enter 58 = .ok (.istore 4, 2) := by decide +kernel
theorem dX5_enter_60 : decode cX5_enter 60 = .ok (.iinc 5 1, 3) := by decide +kernel
theorem dX5_enter_63 : decode cX5_enter 63 = .ok (.goto (-57), 3) := by decide +kernel
theorem dX5_enter_66 : decode cX5_enter 66 = .ok (.iload 4, 2) := by decide +kernel
theorem dX5_enter_68 : decode cX5_enter 68 = .ok (.ireturn, 1) := by decide +kernel
theorem dX6_init_0 : decode cX6_init 0 = .ok (.aload_n 0, 1) := by decide +kernel
theorem dX6_init_1 : decode cX6_init 1 = .ok (.invokespecial 1, 3) := by decide +kernel
theorem dX6_init_4 : decode cX6_init 4 = .ok (.return_, 1) := by decide +kernel
theorem dX6_worth_0 : decode cX6_worth 0 = .ok (.aload_n 1, 1) := by decide +kernel
theorem dX6_worth_1 : decode cX6_worth 1 = .ok (.dup, 1) := by decide +kernel
theorem dX6_worth_2 : decode cX6_worth 2 = .ok (.getfield 7, 3) := by decide +kernel
theorem dX6_worth_5 : decode cX6_worth 5 = .ok (.ldc2_w 13, 3) := by decide +kernel
theorem dX6_worth_8 : decode cX6_worth 8 = .ok (.ladd, 1) := by decide +kernel
theorem dX6_worth_9 : decode cX6_worth 9 = .ok (.putfield 7, 3) := by decide +kernel
theorem dX6_worth_12 : decode cX6_worth 12 = .ok (.aload_n 0, 1) := by decide +kernel
theorem dX6_worth_13 : decode cX6_worth 13 = .ok (.aload_n 1, 1) := by decide +kernel
theorem dX6_worth_14 : decode cX6_worth 14 = .ok (.iload_n 2, 1) := by decide +kernel
theorem dX6_worth_15 : decode cX6_worth 15 = .ok (.invokespecial 15, 3) := by decide +kernel
theorem dX6_worth_18 : decode cX6_worth 18 = .ok (.iload_n 2, 1) := by decide +kernel
theorem dX6_worth_19 : decode cX6_worth 19 = .ok (.iadd, 1) := by decide +kernel
theorem dX6_worth_20 : decode cX6_worth 20 = .ok (.ireturn, 1) := by decide +kernel
theorem dX7_init_0 : decode cX7_init 0 = .ok (.aload_n 0, 1) := by decide +kernel
theorem dX7_init_1 : decode cX7_init 1 = .ok (.invokespecial 3, 3) := by decide +kernel
theorem dX7_init_4 : decode cX7_init 4 = .ok (.aload_n 0, 1) := by decide +kernel
theorem dX7_init_5 : decode cX7_init 5 = .ok (.sipush 200, 3) := by decide +kernel
theorem dX7_init_8 : decode cX7_init 8 = .ok (.newarray .int, 2) := by decide +kernel
theorem dX7_init_10 : decode cX7_init 10 = .ok (.putfield 9, 3) := by decide +kernel
theorem dX7_init_13 : decode cX7_init 13 = .ok (.aload_n 0, 1) := by decide +kernel
theorem dX7_init_14 : decode cX7_init 14 = .ok (.iconst 0, 1) := by decide +kernel
theorem dX7_init_15 : decode cX7_init 15 = .ok (.putfield 15, 3) := by decide +kernel
theorem dX7_init_18 : decode cX7_init 18 = .ok (.aload_n 0, 1) := by decide +kernel
theorem dX7_init_19 : decode cX7_init 19 = .ok (.iconst 0, 1) := by decide +kernel
theorem dX7_init_20 : decode cX7_init 20 = .ok (.putfield 19, 3) := by decide +kernel
theorem dX7_init_23 : decode cX7_init 23 = .ok (.aload_n 0, 1) := by decide +kernel
theorem dX7_init_24 : decode cX7_init 24 = .ok (.iconst 0, 1) := by decide +kernel
theorem dX7_init_25 : decode cX7_init 25 = .ok (.putfield 22, 3) := by decide +kernel
theorem dX7_init_28 : decode cX7_init 28 = .ok (.aload_n 0, 1) := by decide +kernel
theorem dX7_init_29 : decode cX7_init 29 = .ok (.iconst (-1), 1) := by decide +kernel
theorem dX7_init_30 : decode cX7_init 30 = .ok (.putfield 25, 3) := by decide +kernel
theorem dX7_init_33 : decode cX7_init 33 = .ok (.aload_n 0, 1) := by decide +kernel
theorem dX7_init_34 : decode cX7_init 34 = .ok (.iconst 0, 1) := by decide +kernel
theorem dX7_init_35 : decode cX7_init 35 = .ok (.putfield 28, 3) := by decide +kernel
theorem dX7_init_38 : decode cX7_init 38 = .ok (.aload_n 0, 1) := by decide +kernel
theorem dX7_init_39 : decode cX7_init 39 = .ok (.iconst 0, 1) := by decide +kernel
theorem dX7_init_40 : decode cX7_init 40 = .ok (.putfield 31, 3) := by decide +kernel
theorem dX7_init_43 : decode cX7_init 43 = .ok (.return_, 1) := by decide +kernel
theorem dX7_add_0 : decode cX7_add 0 = .ok (.aload_n 0, 1) := by decide +kernel
theorem dX7_add_1 : decode cX7_add 1 = .ok (.getfield 15, 3) := by decide +kernel
theorem dX7_add_4 : decode cX7_add 4 = .ok (.sipush 200, 3) := by decide +kernel
theorem dX7_add_7 : decode cX7_add 7 = .ok (.if_icmp .lt 5, 3) := by decide +kernel
theorem dX7_add_10 : decode cX7_add 10 = .ok (.iconst 0, 1) := by decide +kernel
theorem dX7_add_11 : decode cX7_add 11 = .ok (.ireturn, 1) := by decide +kernel
theorem dX7_add_12 : decode cX7_add 12 = .ok (.aload_n 0, 1) := by decide +kernel
theorem dX7_add_13 : decode cX7_add 13 = .ok (.getfield 9, 3) := by decide +kernel
theorem dX7_add_16 : decode cX7_add 16 = .ok (.aload_n 0, 1) := by decide +kernel
theorem dX7_add_17 : decode cX7_add 17 = .ok (.getfield 15, 3) := by decide +kernel
theorem dX7_add_20 : decode cX7_add 20 = .ok (.iload_n 1, 1) := by decide +kernel
theorem dX7_add_21 : decode cX7_add 21 = .ok (.iastore, 1) := by decide +kernel
theorem dX7_add_22 : decode cX7_add 22 = .ok (.aload_n 0, 1) := by decide +kernel
theorem dX7_add_23 : decode cX7_add 23 = .ok (.dup, 1) := by decide +kernel
theorem dX7_add_24 : decode cX7_add 24 = .ok (.getfield 15, 3) := by decide +kernel
theorem dX7_add_27 : decode cX7_add 27 = .ok (.iconst 1, 1) := by decide +kernel
theorem dX7_add_28 : decode cX7_add 28 = .ok (.iadd, 1) := by decide +kernel
theorem dX7_add_29 : decode cX7_add 29 = .ok (.putfield 15, 3) := by decide +kernel
theorem dX7_add_32 : decode cX7_add 32 = .ok (.iconst 1, 1) := by decide +kernel
theorem dX7_add_33 : decode cX7_add 33 = .ok (.ireturn, 1) := by decide +kernel
theorem dX7_readInto_0 : decode cX7_readInto 0 = .ok (.aload_n 1, 1) := by decide +kernel
theorem dX7_readInto_1 : decode cX7_readInto 1 = .ok (.invokevirtual 35, 3) := by decide +kernel
theorem dX7_readInto_4 : decode cX7_readInto 4 = .ok (.aload_n 0, 1) := by decide +kernel
theorem dX7_readInto_5 : decode cX7_readInto 5 = .ok (.iconst 0, 1) := by decide +kernel
theorem dX7_readInto_6 : decode cX7_readInto 6 = .ok (.putfield 22, 3) := by decide +kernel
theorem dX7_readInto_9 : decode cX7_readInto 9 = .ok (.aload_n 0, 1) := by decide +kernel
theorem dX7_readInto_10 : decode cX7_readInto 10 = .ok (.iconst 0, 1) := by decide +kernel
theorem dX7_readInto_11 : decode cX7_readInto 11 = .ok (.putfield 31, 3) := by decide +kernel
theorem dX7_readInto_14 : decode cX7_readInto 14 = .ok (.iconst 0, 1) := by decide +kernel
theorem dX7_readInto_15 : decode cX7_readInto 15 = .ok (.istore_n 2, 1) := by decide +kernel
theorem dX7_readInto_16 : decode cX7_readInto 16 = .ok (.iload_n 2, 1) := by decide +kernel
theorem dX7_readInto_17 : decode cX7_readInto 17 = .ok (.sipush 200, 3) := by decide +kernel
theorem dX7_readInto_20 : decode cX7_readInto 20 = .ok (.if_icmp .gt 179, 3) := by decide +kernel
theorem dX7_readInto_23 : decode cX7_readInto 23 = .ok (.aload_n 0, 1) := by decide +kernel
theorem dX7_readInto_24 : decode cX7_readInto 24 = .ok (.invokevirtual 40, 3) := by decide +kernel
theorem dX7_readInto_27 : decode cX7_readInto 27 = .ok (.iconst 0, 1) := by decide +kernel
theorem dX7_readInto_28 : decode cX7_readInto 28 = .ok (.istore_n 3, 1) := by decide +kernel
theorem dX7_readInto_29 : decode cX7_readInto 29 = .ok (.aload_n 0, 1) := by decide +kernel
theorem dX7_readInto_30 : decode cX7_readInto 30 = .ok (.getfield 25, 3) := by decide +kernel
theorem dX7_readInto_33 : decode cX7_readInto 33 = .ok (.lookupswitch 153 #[(-1, 51), (99, 102), (100, 128), (104, 78), (116, 53)], 51) := by decide +kernel
theorem dX7_readInto_84 : decode cX7_readInto 84 = .ok (.iload_n 2, 1) := by decide +kernel
theorem dX7_readInto_85 : decode cX7_readInto 85 = .ok (.ireturn, 1) := by decide +kernel
theorem dX7_readInto_86 : decode cX7_readInto 86 = .ok (.aload_n 1, 1) := by decide +kernel
theorem dX7_readInto_87 : decode cX7_readInto 87 = .ok (.getfield 43, 3) := by decide +kernel
theorem dX7_readInto_90 : decode cX7_readInto 90 = .ok (.iconst 5, 1) := by decide +kernel
theorem dX7_readInto_91 : decode cX7_readInto 91 = .ok (.if_icmp .ge 15, 3) := by decide +kernel
theorem dX7_readInto_94 : decode cX7_readInto 94 = .ok (.aload_n 0, 1) := by decide +kernel
theorem dX7_readInto_95 : decode cX7_readInto 95 = .ok (.aload_n 1, 1) := by decide +kernel
theorem dX7_readInto_96 : decode cX7_readInto 96 = .ok (.invokevirtual 46, 3) := by decide +kernel
theorem dX7_readInto_99 : decode cX7_readInto 99 = .ok (.ifCond .eq 7, 3) := by decide +kernel
theorem dX7_readInto_102 : decode cX7_readInto 102 = .ok (.iconst 1, 1) := by decide +kernel
theorem dX7_readInto_103 : decode cX7_readInto 103 = .ok (.goto 4, 3) := by decide +kernel
theorem dX7_readInto_106 : decode cX7_readInto 106 = .ok (.iconst 0, 1) := by decide +kernel
theorem dX7_readInto_107 : decode cX7_readInto 107 = .ok (.istore_n 3, 1) := by decide +kernel
theorem dX7_readInto_108 : decode cX7_readInto 108 = .ok (.goto 78, 3) := by decide +kernel
theorem dX7_readInto_111 : decode cX7_readInto 111 = .ok (.aload_n 0, 1) := by decide +kernel
theorem dX7_readInto_112 : decode cX7_readInto 112 = .ok (.getfield 31, 3) := by decide +kernel
theorem dX7_readInto_115 : decode cX7_readInto 115 = .ok (.ifCond .ne 15, 3) := by decide +kernel
theorem dX7_readInto_118 : decode cX7_readInto 118 = .ok (.aload_n 0, 1) := by decide +kernel
theorem dX7_readInto_119 : decode cX7_readInto 119 = .ok (.aload_n 1, 1) := by decide +kernel
theorem dX7_readInto_120 : decode cX7_readInto 120 = .ok (.invokevirtual 50, 3) := by decide +kernel
theorem dX7_readInto_123 : decode cX7_readInto 123 = .ok (.ifCond .eq 7, 3) := by decide +kernel
theorem dX7_readInto_126 : decode cX7_readInto 126 = .ok (.iconst 1, 1) := by decide +kernel
theorem dX7_readInto_127 : decode cX7_readInto 127 = .ok (.goto 4, 3) := by decide +kernel
theorem dX7_readInto_130 : decode cX7_readInto 130 = .ok (.iconst 0, 1) := by decide +kernel
theorem dX7_readInto_131 : decode cX7_readInto 131 = .ok (.istore_n 3, 1) := by decide +kernel
theorem dX7_readInto_132 : decode cX7_readInto 132 = .ok (.goto 54, 3) := by decide +kernel
theorem dX7_readInto_135 : decode cX7_readInto 135 = .ok (.aload_n 1, 1) := by decide +kernel
theorem dX7_readInto_136 : decode cX7_readInto 136 = .ok (.getfield 53, 3) := by decide +kernel
theorem dX7_readInto_139 : decode cX7_readInto 139 = .ok (.bipush 8, 2) := by decide +kernel
theorem dX7_readInto_141 : decode cX7_readInto 141 = .ok (.if_icmp .ge 15, 3) := by decide +kernel
theorem dX7_readInto_144 : decode cX7_readInto 144 = .ok (.aload_n 0, 1) := by decide +kernel
theorem dX7_readInto_145 : decode cX7_readInto 145 = .ok (.aload_n 1, 1) := by decide +kernel
theorem dX7_readInto_146 : decode cX7_readInto 146 = .ok (.invokevirtual 56, 3) := by decide +kernel
theorem dX7_readInto_149 : decode cX7_readInto 149 = .ok (.ifCond .eq 7, 3) := by decide +kernel
theorem dX7_readInto_152 : decode cX7_readInto 152 = .ok (.iconst 1, 1) := by decide +kernel
theorem dX7_readInto_153 : decode cX7_readInto 153 = .ok (.goto 4, 3) := by decide +kernel
theorem dX7_readInto_156 : decode cX7_readInto 156 = .ok (.iconst 0, 1) := by decide +kernel
theorem dX7_readInto_157 : decode cX7_readInto 157 = .ok (.istore_n 3, 1) := by decide +kernel
theorem dX7_readInto_158 : decode cX7_readInto 158 = .ok (.goto 28, 3) := by decide +kernel
theorem dX7_readInto_161 : decode cX7_readInto 161 = .ok (.aload_n 1, 1) := by decide +kernel
theorem dX7_readInto_162 : decode cX7_readInto 162 = .ok (.getfield 59, 3) := by decide +kernel
theorem dX7_readInto_165 : decode cX7_readInto 165 = .ok (.iconst 2, 1) := by decide +kernel
theorem dX7_readInto_166 : decode cX7_readInto 166 = .ok (.if_icmp .ge 15, 3) := by decide +kernel
theorem dX7_readInto_169 : decode cX7_readInto 169 = .ok (.aload_n 0, 1) := by decide +kernel
theorem dX7_readInto_170 : decode cX7_readInto 170 = .ok (.aload_n 1, 1) := by decide +kernel
theorem dX7_readInto_171 : decode cX7_readInto 171 = .ok (.invokevirtual 62, 3) := by decide +kernel
theorem dX7_readInto_174 : decode cX7_readInto 174 = .ok (.ifCond .eq 7, 3) := by decide +kernel
theorem dX7_readInto_177 : decode cX7_readInto 177 = .ok (.iconst 1, 1) := by decide +kernel
theorem dX7_readInto_178 : decode cX7_readInto 178 = .ok (.goto 4, 3) := by decide +kernel
theorem dX7_readInto_181 : decode cX7_readInto 181 = .ok (.iconst 0, 1) := by decide +kernel
theorem dX7_readInto_182 : decode cX7_readInto 182 = .ok (.istore_n 3, 1) := by decide +kernel
theorem dX7_readInto_183 : decode cX7_readInto 183 = .ok (.goto 3, 3) := by decide +kernel
theorem dX7_readInto_186 : decode cX7_readInto 186 = .ok (.iload_n 3, 1) := by decide +kernel
theorem dX7_readInto_187 : decode cX7_readInto 187 = .ok (.ifCond .ne 6, 3) := by decide +kernel
theorem dX7_readInto_190 : decode cX7_readInto 190 = .ok (.bipush (-3), 2) := by decide +kernel
theorem dX7_readInto_192 : decode cX7_readInto 192 = .ok (.ireturn, 1) := by decide +kernel
theorem dX7_readInto_193 : decode cX7_readInto 193 = .ok (.iinc 2 1, 3) := by decide +kernel
theorem dX7_readInto_196 : decode cX7_readInto 196 = .ok (.goto (-180), 3) := by decide +kernel
theorem dX7_readInto_199 : decode cX7_readInto 199 = .ok (.bipush (-3), 2) := by decide +kernel
theorem dX7_readInto_201 : decode cX7_readInto 201 = .ok (.ireturn, 1) := by decide +kernel
theorem dX7_readPhone_0 : decode cX7_readPhone 0 = .ok (.aload_n 1, 1) := by decide +kernel
theorem dX7_readPhone_1 : decode cX7_readPhone 1 = .ok (.getfield 43, 3) := by decide +kernel
theorem dX7_readPhone_4 : decode cX7_readPhone 4 = .ok (.istore_n 2, 1) := by decide +kernel
theorem dX7_readPhone_5 : decode cX7_readPhone 5 = .ok (.aload_n 0, 1) := by decide +kernel
theorem dX7_readPhone_6 : decode cX7_readPhone 6 = .ok (.iconst 0, 1) := by decide +kernel
theorem dX7_readPhone_7 : decode cX7_readPhone 7 = .ok (.bipush 100, 2) := by decide +kernel
theorem dX7_readPhone_9 : decode cX7_readPhone 9 = .ok (.invokevirtual 65, 3) := by decide +kernel
theorem dX7_readPhone_12 : decode cX7_readPhone 12 = .ok (.ifCond .ne 5, 3) := by decide +kernel
theorem dX7_readPhone_15 : decode cX7_readPhone 15 = .ok (.iconst 0, 1) := by decide +kernel
theorem dX7_readPhone_16 : decode cX7_readPhone 16 = .ok (.ireturn, 1) := by decide +kernel
theorem dX7_readPhone_17 : decode cX7_readPhone 17 = .ok (.aload_n 1, 1) := by decide +kernel
theorem dX7_readPhone_18 : decode cX7_readPhone 18 = .ok (.getfield 69, 3) := by decide +kernel
theorem dX7_readPhone_21 : decode cX7_readPhone 21 = .ok (.iload_n 2, 1) := by decide +kernel
theorem dX7_readPhone_22 : decode cX7_readPhone 22 = .ok (.aload_n 0, 1) := by decide +kernel
theorem dX7_readPhone_23 : decode cX7_readPhone 23 = .ok (.getfield 28, 3) := by decide +kernel
theorem dX7_readPhone_26 : decode cX7_readPhone 26 = .ok (.iastore, 1) := by decide +kernel
theorem dX7_readPhone_27 : decode cX7_readPhone 27 = .ok (.aload_n 0, 1) := by decide +kernel
theorem dX7_readPhone_28 : decode cX7_readPhone 28 = .ok (.iconst 1, 1) := by decide +kernel
theorem dX7_readPhone_29 : decode cX7_readPhone 29 = .ok (.bipush 30, 2) := by decide +kernel
theorem dX7_readPhone_31 : decode cX7_readPhone 31 = .ok (.invokevirtual 65, 3) := by decide +kernel
theorem dX7_readPhone_34 : decode cX7_readPhone 34 = .ok (.ifCond .ne 5, 3) := by decide +kernel
theorem dX7_readPhone_37 : decode cX7_readPhone 37 = .ok (.iconst 0, 1) := by decide +kernel
theorem dX7_readPhone_38 : decode cX7_readPhone 38 = .ok (.ireturn, 1) := by decide +kernel
theorem dX7_readPhone_39 : decode cX7_readPhone 39 = .ok (.aload_n 1, 1) := by decide +kernel
theorem dX7_readPhone_40 : decode cX7_readPhone 40 = .ok (.getfield 72, 3) := by decide +kernel
theorem dX7_readPhone_43 : decode cX7_readPhone 43 = .ok (.iload_n 2, 1) := by decide +kernel
theorem dX7_readPhone_44 : decode cX7_readPhone 44 = .ok (.aload_n 0, 1) := by decide +kernel
theorem dX7_readPhone_45 : decode cX7_readPhone 45 = .ok (.getfield 28, 3) := by decide +kernel
theorem dX7_readPhone_48 : decode cX7_readPhone 48 = .ok (.iastore, 1) := by decide +kernel
theorem dX7_readPhone_49 : decode cX7_readPhone 49 = .ok (.aload_n 0, 1) := by decide +kernel
theorem dX7_readPhone_50 : decode cX7_readPhone 50 = .ok (.iconst 0, 1) := by decide +kernel
theorem dX7_readPhone_51 : decode cX7_readPhone 51 = .ok (.bipush 9, 2) := by decide +kernel
theorem dX7_readPhone_53 : decode cX7_readPhone 53 = .ok (.invokevirtual 65, 3) := by decide +kernel
theorem dX7_readPhone_56 : decode cX7_readPhone 56 = .ok (.ifCond .ne 5, 3) := by decide +kernel
theorem dX7_readPhone_59 : decode cX7_readPhone 59 = .ok (.iconst 0, 1) := by decide +kernel
theorem dX7_readPhone_60 : decode cX7_readPhone 60 = .ok (.ireturn, 1) := by decide +kernel
theorem dX7_readPhone_61 : decode cX7_readPhone 61 = .ok (.aload_n 1, 1) := by decide +kernel
theorem dX7_readPhone_62 : decode cX7_readPhone 62 = .ok (.getfield 75, 3) := by decide +kernel
theorem dX7_readPhone_65 : decode cX7_readPhone 65 = .ok (.iload_n 2, 1) := by decide +kernel
theorem dX7_readPhone_66 : decode cX7_readPhone 66 = .ok (.aload_n 0, 1) := by decide +kernel
theorem dX7_readPhone_67 : decode cX7_readPhone 67 = .ok (.getfield 28, 3) := by decide +kernel
theorem dX7_readPhone_70 : decode cX7_readPhone 70 = .ok (.iastore, 1) := by decide +kernel
theorem dX7_readPhone_71 : decode cX7_readPhone 71 = .ok (.aload_n 1, 1) := by decide +kernel
theorem dX7_readPhone_72 : decode cX7_readPhone 72 = .ok (.dup, 1) := by decide +kernel
theorem dX7_readPhone_73 : decode cX7_readPhone 73 = .ok (.getfield 43, 3) := by decide +kernel
theorem dX7_readPhone_76 : decode cX7_readPhone 76 = .ok (.iconst 1, 1) := by decide +kernel
theorem dX7_readPhone_77 : decode cX7_readPhone 77 = .ok (.iadd, 1) := by decide +kernel
theorem dX7_readPhone_78 : decode cX7_readPhone 78 = .ok (.putfield 43, 3) := by decide +kernel
theorem dX7_readPhone_81 : decode cX7_readPhone 81 = .ok (.aload_n 0, 1) := by decide +kernel
theorem dX7_readPhone_82 : decode cX7_readPhone 82 = .ok (.invokevirtual 78, 3) := by decide +kernel
theorem dX7_readPhone_85 : decode cX7_readPhone 85 = .ok (.ireturn, 1) := by decide +kernel
theorem dX7_readHoles_0 : decode cX7_readHoles 0 = .ok (.aload_n 0, 1) := by decide +kernel
theorem dX7_readHoles_1 : decode cX7_readHoles 1 = .ok (.iconst 1, 1) := by decide +kernel
theorem dX7_readHoles_2 : decode cX7_readHoles 2 = .ok (.iconst 2, 1) := by decide +kernel
theorem dX7_readHoles_3 : decode cX7_readHoles 3 = .ok (.invokevirtual 65, 3) := by decide +kernel
theorem dX7_readHoles_6 : decode cX7_readHoles 6 = .ok (.ifCond .ne 5, 3) := by decide +kernel
theorem dX7_readHoles_9 : decode cX7_readHoles 9 = .ok (.iconst 0, 1) := by decide +kernel
theorem dX7_readHoles_10 : decode cX7_readHoles 10 = .ok (.ireturn, 1) := by decide +kernel
theorem dX7_readHoles_11 : decode cX7_readHoles 11 = .ok (.aload_n 1, 1) := by decide +kernel
theorem dX7_readHoles_12 : decode cX7_readHoles 12 = .ok (.aload_n 0, 1) := by decide +kernel
theorem dX7_readHoles_13 : decode cX7_readHoles 13 = .ok (.getfield 28, 3) := by decide +kernel
theorem dX7_readHoles_16 : decode cX7_readHoles 16 = .ok (.putfield 82, 3) := by decide +kernel
theorem dX7_readHoles_19 : decode cX7_readHoles 19 = .ok (.aload_n 0, 1) := by decide +kernel
theorem dX7_readHoles_20 : decode cX7_readHoles 20 = .ok (.iconst 1, 1) := by decide +kernel
theorem dX7_readHoles_21 : decode cX7_readHoles 21 = .ok (.putfield 31, 3) := by decide +kernel
theorem dX7_readHoles_24 : decode cX7_readHoles 24 = .ok (.aload_n 0, 1) := by decide +kernel
theorem dX7_readHoles_25 : decode cX7_readHoles 25 = .ok (.invokevirtual 78, 3) := by decide +kernel
theorem dX7_readHoles_28 : decode cX7_readHoles 28 = .ok (.ireturn, 1) := by decide +kernel
theorem dX7_readCall_0 : decode cX7_readCall 0 = .ok (.aload_n 1, 1) := by decide +kernel
theorem dX7_readCall_1 : decode cX7_readCall 1 = .ok (.getfield 53, 3) := by decide +kernel
theorem dX7_readCall_4 : decode cX7_readCall 4 = .ok (.istore_n 2, 1) := by decide +kernel
theorem dX7_readCall_5 : decode cX7_readCall 5 = .ok (.aload_n 0, 1) := by decide +kernel
theorem dX7_readCall_6 : decode cX7_readCall 6 = .ok (.iconst 0, 1) := by decide +kernel
theorem dX7_readCall_7 : decode cX7_readCall 7 = .ok (.aload_n 1, 1) := by decide +kernel
theorem dX7_readCall_8 : decode cX7_readCall 8 = .ok (.getfield 43, 3) := by decide +kernel
theorem dX7_readCall_11 : decode cX7_readCall 11 = .ok (.iconst 1, 1) := by decide +kernel
theorem dX7_readCall_12 : decode cX7_readCall 12 = .ok (.isub, 1) := by decide +kernel
theorem dX7_readCall_13 : decode cX7_readCall 13 = .ok (.invokevirtual 65, 3) := by decide +kernel
theorem dX7_readCall_16 : decode cX7_readCall 16 = .ok (.ifCond .ne 5, 3) := by decide +kernel
theorem dX7_readCall_19 : decode cX7_readCall 19 = .ok (.iconst 0, 1) := by decide +kernel
theorem dX7_readCall_20 : decode cX7_readCall 20 = .ok (.ireturn, 1) := by decide +kernel
theorem dX7_readCall_21 : decode cX7_readCall 21 = .ok (.aload_n 1, 1) := by decide +kernel
theorem dX7_readCall_22 : decode cX7_readCall 22 = .ok (.getfield 85, 3) := by decide +kernel
theorem dX7_readCall_25 : decode cX7_readCall 25 = .ok (.iload_n 2, 1) := by decide +kernel
theorem dX7_readCall_26 : decode cX7_readCall 26 = .ok (.aload_n 0, 1) := by decide +kernel
theorem dX7_readCall_27 : decode cX7_readCall 27 = .ok (.getfield 28, 3) := by decide +kernel
theorem dX7_readCall_30 : decode cX7_readCall 30 = .ok (.iastore, 1) := by decide +kernel
theorem dX7_readCall_31 : decode cX7_readCall 31 = .ok (.aload_n 0, 1) := by decide +kernel
theorem dX7_readCall_32 : decode cX7_readCall 32 = .ok (.iconst 0, 1) := by decide +kernel
theorem dX7_readCall_33 : decode cX7_readCall 33 = .ok (.bipush 60, 2) := by decide +kernel
theorem dX7_readCall_35 : decode cX7_readCall 35 = .ok (.invokevirtual 65, 3) := by decide +kernel
theorem dX7_readCall_38 : decode cX7_readCall 38 = .ok (.ifCond .ne 5, 3) := by decide +kernel
theorem dX7_readCall_41 : decode cX7_readCall 41 = .ok (.iconst 0, 1) := by decide +kernel
theorem dX7_readCall_42 : decode cX7_readCall 42 = .ok (.ireturn, 1) := by decide +kernel
theorem dX7_readCall_43 : decode cX7_readCall 43 = .ok (.aload_n 1, 1) := by decide +kernel
theorem dX7_readCall_44 : decode cX7_readCall 44 = .ok (.getfield 88, 3) := by decide +kernel
theorem dX7_readCall_47 : decode cX7_readCall 47 = .ok (.iload_n 2, 1) := by decide +kernel
theorem dX7_readCall_48 : decode cX7_readCall 48 = .ok (.aload_n 0, 1) := by decide +kernel
theorem dX7_readCall_49 : decode cX7_readCall 49 = .ok (.getfield 28, 3) := by decide +kernel
theorem dX7_readCall_52 : decode cX7_readCall 52 = .ok (.iastore, 1) := by decide +kernel
theorem dX7_readCall_53 : decode cX7_readCall 53 = .ok (.aload_n 0, 1) := by decide +kernel
theorem dX7_readCall_54 : decode cX7_readCall 54 = .ok (.iconst 1, 1) := by decide +kernel
theorem dX7_readCall_55 : decode cX7_readCall 55 = .ok (.bipush 50, 2) := by decide +kernel
theorem dX7_readCall_57 : decode cX7_readCall 57 = .ok (.invokevirtual 65, 3) := by decide +kernel
theorem dX7_readCall_60 : decode cX7_readCall 60 = .ok (.ifCond .ne 5, 3) := by decide +kernel
theorem dX7_readCall_63 : decode cX7_readCall 63 = .ok (.iconst 0, 1) := by decide +kernel
theorem dX7_readCall_64 : decode cX7_readCall 64 = .ok (.ireturn, 1) := by decide +kernel
theorem dX7_readCall_65 : decode cX7_readCall 65 = .ok (.aload_n 1, 1) := by decide +kernel
theorem dX7_readCall_66 : decode cX7_readCall 66 = .ok (.getfield 91, 3) := by decide +kernel
theorem dX7_readCall_69 : decode cX7_readCall 69 = .ok (.iload_n 2, 1) := by decide +kernel
theorem dX7_readCall_70 : decode cX7_readCall 70 = .ok (.aload_n 0, 1) := by decide +kernel
theorem dX7_readCall_71 : decode cX7_readCall 71 = .ok (.getfield 28, 3) := by decide +kernel
theorem dX7_readCall_74 : decode cX7_readCall 74 = .ok (.iastore, 1) := by decide +kernel
theorem dX7_readCall_75 : decode cX7_readCall 75 = .ok (.aload_n 1, 1) := by decide +kernel
theorem dX7_readCall_76 : decode cX7_readCall 76 = .ok (.dup, 1) := by decide +kernel
theorem dX7_readCall_77 : decode cX7_readCall 77 = .ok (.getfield 53, 3) := by decide +kernel
theorem dX7_readCall_80 : decode cX7_readCall 80 = .ok (.iconst 1, 1) := by decide +kernel
theorem dX7_readCall_81 : decode cX7_readCall 81 = .ok (.iadd, 1) := by decide +kernel
theorem dX7_readCall_82 : decode cX7_readCall 82 = .ok (.putfield 53, 3) := by decide +kernel
theorem dX7_readCall_85 : decode cX7_readCall 85 = .ok (.aload_n 0, 1) := by decide +kernel
theorem dX7_readCall_86 : decode cX7_readCall 86 = .ok (.invokevirtual 78, 3) := by decide +kernel
theorem dX7_readCall_89 : decode cX7_readCall 89 = .ok (.ireturn, 1) := by decide +kernel
theorem dX7_readDark_0 : decode cX7_readDark 0 = .ok (.aload_n 1, 1) := by decide +kernel
theorem dX7_readDark_1 : decode cX7_readDark 1 = .ok (.getfield 59, 3) := by decide +kernel
theorem dX7_readDark_4 : decode cX7_readDark 4 = .ok (.istore_n 2, 1) := by decide +kernel
theorem dX7_readDark_5 : decode cX7_readDark 5 = .ok (.aload_n 0, 1) := by decide +kernel
theorem dX7_readDark_6 : decode cX7_readDark 6 = .ok (.iconst 0, 1) := by decide +kernel
theorem dX7_readDark_7 : decode cX7_readDark 7 = .ok (.bipush 60, 2) := by decide +kernel
theorem dX7_readDark_9 : decode cX7_readDark 9 = .ok (.invokevirtual 65, 3) := by decide +kernel
theorem dX7_readDark_12 : decode cX7_readDark 12 = .ok (.ifCond .ne 5, 3) := by decide +kernel
theorem dX7_readDark_15 : decode cX7_readDark 15 = .ok (.iconst 0, 1) := by decide +kernel
theorem dX7_readDark_16 : decode cX7_readDark 16 = .ok (.ireturn, 1) := by decide +kernel
theorem dX7_readDark_17 : decode cX7_readDark 17 = .ok (.aload_n 1, 1) := by decide +kernel
theorem dX7_readDark_18 : decode cX7_readDark 18 = .ok (.getfield 94, 3) := by decide +kernel
theorem dX7_readDark_21 : decode cX7_readDark 21 = .ok (.iload_n 2, 1) := by decide +kernel
theorem dX7_readDark_22 : decode cX7_readDark 22 = .ok (.aload_n 0, 1) := by decide +kernel
theorem dX7_readDark_23 : decode cX7_readDark 23 = .ok (.getfield 28, 3) := by decide +kernel
theorem dX7_readDark_26 : decode cX7_readDark 26 = .ok (.iastore, 1) := by decide +kernel
theorem dX7_readDark_27 : decode cX7_readDark 27 = .ok (.aload_n 0, 1) := by decide +kernel
theorem dX7_readDark_28 : decode cX7_readDark 28 = .ok (.aload_n 1, 1) := by decide +kernel
theorem dX7_readDark_29 : decode cX7_readDark 29 = .ok (.getfield 94, 3) := by decide +kernel
theorem dX7_readDark_32 : decode cX7_readDark 32 = .ok (.iload_n 2, 1) := by decide +kernel
theorem dX7_readDark_33 : decode cX7_readDark 33 = .ok (.iaload, 1) := by decide +kernel
theorem dX7_readDark_34 : decode cX7_readDark 34 = .ok (.bipush 60, 2) := by decide +kernel
theorem dX7_readDark_36 : decode cX7_readDark 36 = .ok (.invokevirtual 65, 3) := by decide +kernel
theorem dX7_readDark_39 : decode cX7_readDark 39 = .ok (.ifCond .ne 5, 3) := by decide +kernel
theorem dX7_readDark_42 : decode cX7_readDark 42 = .ok (.iconst 0, 1) := by decide +kernel
theorem dX7_readDark_43 : decode cX7_readDark 43 = .ok (.ireturn, 1) := by decide +kernel
theorem dX7_readDark_44 : decode cX7_readDark 44 = .ok (.aload_n 1, 1) := by decide +kernel
theorem dX7_readDark_45 : decode cX7_readDark 45 = .ok (.getfield 97, 3) := by decide +kernel
theorem dX7_readDark_48 : decode cX7_readDark 48 = .ok (.iload_n 2, 1) := by decide +kernel
theorem dX7_readDark_49 : decode cX7_readDark 49 = .ok (.aload_n 0, 1) := by decide +kernel
theorem dX7_readDark_50 : decode cX7_readDark 50 = .ok (.getfield 28, 3) := by decide +kernel
theorem dX7_readDark_53 : decode cX7_readDark 53 = .ok (.iastore, 1) := by decide +kernel
theorem dX7_readDark_54 : decode cX7_readDark 54 = .ok (.aload_n 1, 1) := by decide +kernel
theorem dX7_readDark_55 : decode cX7_readDark 55 = .ok (.dup, 1) := by decide +kernel
theorem dX7_readDark_56 : decode cX7_readDark 56 = .ok (.getfield 59, 3) := by decide +kernel
theorem dX7_readDark_59 : decode cX7_readDark 59 = .ok (.iconst 1, 1) := by decide +kernel
theorem dX7_readDark_60 : decode cX7_readDark 60 = .ok (.iadd, 1) := by decide +kernel
theorem dX7_readDark_61 : decode cX7_readDark 61 = .ok (.putfield 59, 3) := by decide +kernel
theorem dX7_readDark_64 : decode cX7_readDark 64 = .ok (.aload_n 0, 1) := by decide +kernel
theorem dX7_readDark_65 : decode cX7_readDark 65 = .ok (.invokevirtual 78, 3) := by decide +kernel
theorem dX7_readDark_68 : decode cX7_readDark 68 = .ok (.ireturn, 1) := by decide +kernel
theorem dX7_nextIsNumber_0 : decode cX7_nextIsNumber 0 = .ok (.aload_n 0, 1) := by decide +kernel
theorem dX7_nextIsNumber_1 : decode cX7_nextIsNumber 1 = .ok (.invokevirtual 40, 3) := by decide +kernel
theorem dX7_nextIsNumber_4 : decode cX7_nextIsNumber 4 = .ok (.aload_n 0, 1) := by decide +kernel
theorem dX7_nextIsNumber_5 : decode cX7_nextIsNumber 5 = .ok (.getfield 25, 3) := by decide +kernel
theorem dX7_nextIsNumber_8 : decode cX7_nextIsNumber 8 = .ok (.bipush (-2), 2) := by decide +kernel
theorem dX7_nextIsNumber_10 : decode cX7_nextIsNumber 10 = .ok (.if_icmp .ne 19, 3) := by decide +kernel
theorem dX7_nextIsNumber_13 : decode cX7_nextIsNumber 13 = .ok (.aload_n 0, 1) := by decide +kernel
theorem dX7_nextIsNumber_14 : decode cX7_nextIsNumber 14 = .ok (.getfield 28, 3) := by decide +kernel
theorem dX7_nextIsNumber_17 : decode cX7_nextIsNumber 17 = .ok (.iload_n 1, 1) := by decide +kernel
theorem dX7_nextIsNumber_18 : decode cX7_nextIsNumber 18 = .ok (.iload_n 2, 1) := by decide +kernel
theorem dX7_nextIsNumber_19 : decode cX7_nextIsNumber 19 = .ok (.invokestatic 100, 3) := by decide +kernel
theorem dX7_nextIsNumber_22 : decode cX7_nextIsNumber 22 = .ok (.ifCond .eq 7, 3) := by decide +kernel
theorem dX7_nextIsNumber_25 : decode cX7_nextIsNumber 25 = .ok (.iconst 1, 1) := by decide +kernel
theorem dX7_nextIsNumber_26 : decode cX7_nextIsNumber 26 = .ok (.goto 4, 3) := by decide +kernel
theorem dX7_nextIsNumber_29 : decode cX7_nextIsNumber 29 = .ok (.iconst 0, 1) := by decide +kernel
theorem dX7_nextIsNumber_30 : decode cX7_nextIsNumber 30 = .ok (.ireturn, 1) := by decide +kernel
theorem dX7_nextIsItemEnd_0 : decode cX7_nextIsItemEnd 0 = .ok (.aload_n 0, 1) := by decide +kernel
theorem dX7_nextIsItemEnd_1 : decode cX7_nextIsItemEnd 1 = .ok (.invokevirtual 40, 3) := by decide +kernel
theorem dX7_nextIsItemEnd_4 : decode cX7_nextIsItemEnd 4 = .ok (.aload_n 0, 1) := by decide +kernel
theorem dX7_nextIsItemEnd_5 : decode cX7_nextIsItemEnd 5 = .ok (.getfield 25, 3) := by decide +kernel
theorem dX7_nextIsItemEnd_8 : decode cX7_nextIsItemEnd 8 = .ok (.bipush 59, 2) := by decide +kernel
theorem dX7_nextIsItemEnd_10 : decode cX7_nextIsItemEnd 10 = .ok (.if_icmp .ne 7, 3) := by decide +kernel
theorem dX7_nextIsItemEnd_13 : decode cX7_nextIsItemEnd 13 = .ok (.iconst 1, 1) := by decide +kernel
theorem dX7_nextIsItemEnd_14 : decode cX7_nextIsItemEnd 14 = .ok (.goto 4, 3) := by decide +kernel
theorem dX7_nextIsItemEnd_17 : decode cX7_nextIsItemEnd 17 = .ok (.iconst 0, 1) := by decide +kernel
theorem dX7_nextIsItemEnd_18 : decode cX7_nextIsItemEnd 18 = .ok (.ireturn, 1) := by decide +kernel
theorem dX7_next_0 : decode cX7_next 0 = .ok (.aload_n 0, 1) := by decide +kernel
theorem dX7_next_1 : decode cX7_next 1 = .ok (.getfield 22, 3) := by decide +kernel
theorem dX7_next_4 : decode cX7_next 4 = .ok (.aload_n 0, 1) := by decide +kernel
theorem dX7_next_5 : decode cX7_next 5 = .ok (.getfield 15, 3) := by decide +kernel
theorem dX7_next_8 : decode cX7_next 8 = .ok (.if_icmp .ge 30, 3) := by decide +kernel
theorem dX7_next_11 : decode cX7_next 11 = .ok (.aload_n 0, 1) := by decide +kernel
theorem dX7_next_12 : decode cX7_next 12 = .ok (.getfield 9, 3) := by decide +kernel
theorem dX7_next_15 : decode cX7_next 15 = .ok (.aload_n 0, 1) := by decide +kernel
theorem dX7_next_16 : decode cX7_next 16 = .ok (.getfield 22, 3) := by decide +kernel
theorem dX7_next_19 : decode cX7_next 19 = .ok (.iaload, 1) := by decide +kernel
theorem dX7_next_20 : decode cX7_next 20 = .ok (.bipush 32, 2) := by decide +kernel
theorem dX7_next_22 : decode cX7_next 22 = .ok (.if_icmp .ne 16, 3) := by decide +kernel
theorem dX7_next_25 : decode cX7_next 25 = .ok (.aload_n 0, 1) := by decide +kernel
theorem dX7_next_26 : decode cX7_next 26 = .ok (.dup, 1) := by decide +kernel
theorem dX7_next_27 : decode cX7_next 27 = .ok (.getfield 22, 3) := by decide +kernel
theorem dX7_next_30 : decode cX7_next 30 = .ok (.iconst 1, 1) := by decide +kernel
theorem dX7_next_31 : decode cX7_next 31 = .ok (.iadd, 1) := by decide +kernel
theorem dX7_next_32 : decode cX7_next 32 = .ok (.putfield 22, 3) := by decide +kernel
theorem dX7_next_35 : decode cX7_next 35 = .ok (.goto (-35), 3) := by decide +kernel
theorem dX7_next_38 : decode cX7_next 38 = .ok (.aload_n 0, 1) := by decide +kernel
theorem dX7_next_39 : decode cX7_next 39 = .ok (.aload_n 0, 1) := by decide +kernel
theorem dX7_next_40 : decode cX7_next 40 = .ok (.getfield 22, 3) := by decide +kernel
theorem dX7_next_43 : decode cX7_next 43 = .ok (.putfield 19, 3) := by decide +kernel
theorem dX7_next_46 : decode cX7_next 46 = .ok (.aload_n 0, 1) := by decide +kernel
theorem dX7_next_47 : decode cX7_next 47 = .ok (.getfield 22, 3) := by decide +kernel
theorem dX7_next_50 : decode cX7_next 50 = .ok (.aload_n 0, 1) := by decide +kernel
theorem dX7_next_51 : decode cX7_next 51 = .ok (.getfield 15, 3) := by decide +kernel
theorem dX7_next_54 : decode cX7_next 54 = .ok (.if_icmp .lt 11, 3) := by decide +kernel
theorem dX7_next_57 : decode cX7_next 57 = .ok (.aload_n 0, 1) := by decide +kernel
theorem dX7_next_58 : decode cX7_next 58 = .ok (.iconst (-1), 1) := by decide +kernel
theorem dX7_next_59 : decode cX7_next 59 = .ok (.putfield 25, 3) := by decide +kernel
theorem dX7_next_62 : decode cX7_next 62 = .ok (.goto 68, 3) := by decide +kernel
theorem dX7_next_65 : decode cX7_next 65 = .ok (.aload_n 0, 1) := by decide +kernel
theorem dX7_next_66 : decode cX7_next 66 = .ok (.getfield 9, 3) := by decide +kernel
theorem dX7_next_69 : decode cX7_next 69 = .ok (.aload_n 0, 1) := by decide +kernel
theorem dX7_next_70 : decode cX7_next 70 = .ok (.getfield 22, 3) := by decide +kernel
theorem dX7_next_73 : decode cX7_next 73 = .ok (.iaload, 1) := by decide +kernel
theorem dX7_next_74 : decode cX7_next 74 = .ok (.invokestatic 104, 3) := by decide +kernel
theorem dX7_next_77 : decode cX7_next 77 = .ok (.ifCond .eq 10, 3) := by decide +kernel
theorem dX7_next_80 : decode cX7_next 80 = .ok (.aload_n 0, 1) := by decide +kernel
theorem dX7_next_81 : decode cX7_next 81 = .ok (.invokevirtual 108, 3) := by decide +kernel
theorem dX7_next_84 : decode cX7_next 84 = .ok (.goto 46, 3) := by decide +kernel
theorem dX7_next_87 : decode cX7_next 87 = .ok (.aload_n 0, 1) := by decide +kernel
theorem dX7_next_88 : decode cX7_next 88 = .ok (.aload_n 0, 1) := by decide +kernel
theorem dX7_next_89 : decode cX7_next 89 = .ok (.getfield 9, 3) := by decide +kernel
theorem dX7_next_92 : decode cX7_next 92 = .ok (.aload_n 0, 1) := by decide +kernel
theorem dX7_next_93 : decode cX7_next 93 = .ok (.getfield 22, 3) := by decide +kernel
theorem dX7_next_96 : decode cX7_next 96 = .ok (.iaload, 1) := by decide +kernel
theorem dX7_next_97 : decode cX7_next 97 = .ok (.invokestatic 111, 3) := by decide +kernel
theorem dX7_next_100 : decode cX7_next 100 = .ok (.ifCond .eq 15, 3) := by decide +kernel
theorem dX7_next_103 : decode cX7_next 103 = .ok (.aload_n 0, 1) := by decide +kernel
theorem dX7_next_104 : decode cX7_next 104 = .ok (.getfield 9, 3) := by decide +kernel
theorem dX7_next_107 : decode cX7_next 107 = .ok (.aload_n 0, 1) := by decide +kernel
theorem dX7_next_108 : decode cX7_next 108 = .ok (.getfield 22, 3) := by decide +kernel
theorem dX7_next_111 : decode cX7_next 111 = .ok (.iaload, 1) := by decide +kernel
theorem dX7_next_112 : decode cX7_next 112 = .ok (.goto 5, 3) := by decide +kernel
theorem dX7_next_115 : decode cX7_next 115 = .ok (.bipush (-3), 2) := by decide +kernel
theorem dX7_next_117 : decode cX7_next 117 = .ok (.putfield 25, 3) := by decide +kernel
theorem dX7_next_120 : decode cX7_next 120 = .ok (.aload_n 0, 1) := by decide +kernel
theorem dX7_next_121 : decode cX7_next 121 = .ok (.dup, 1) := by decide +kernel
theorem dX7_next_122 : decode cX7_next 122 = .ok (.getfield 22, 3) := by decide +kernel
theorem dX7_next_125 : decode cX7_next 125 = .ok (.iconst 1, 1) := by decide +kernel
theorem dX7_next_126 : decode cX7_next 126 = .ok (.iadd, 1) := by decide +kernel
theorem dX7_next_127 : decode cX7_next 127 = .ok (.putfield 22, 3) := by decide +kernel
theorem dX7_next_130 : decode cX7_next 130 = .ok (.return_, 1) := by decide +kernel
theorem dX7_scanNumber_0 : decode cX7_scanNumber 0 = .ok (.aload_n 0, 1) := by decide +kernel
theorem dX7_scanNumber_1 : decode cX7_scanNumber 1 = .ok (.iconst 0, 1) := by decide +kernel
theorem dX7_scanNumber_2 : decode cX7_scanNumber 2 = .ok (.putfield 28, 3) := by decide +kernel
theorem dX7_scanNumber_5 : decode cX7_scanNumber 5 = .ok (.aload_n 0, 1) := by decide +kernel
theorem dX7_scanNumber_6 : decode cX7_scanNumber 6 = .ok (.getfield 22, 3) := by decide +kernel
theorem dX7_scanNumber_9 : decode cX7_scanNumber 9 = .ok (.aload_n 0, 1) := by decide +kernel
theorem dX7_scanNumber_10 : decode cX7_scanNumber 10 = .ok (.getfield 15, 3) := by decide +kernel
theorem dX7_scanNumber_13 : decode cX7_scanNumber 13 = .ok (.if_icmp .ge 60, 3) := by decide +kernel
theorem dX7_scanNumber_16 : decode cX7_scanNumber 16 = .ok (.aload_n 0, 1) := by decide +kernel
theorem dX7_scanNumber_17 : decode cX7_scanNumber 17 = .ok (.getfield 9, 3) := by decide +kernel
theorem dX7_scanNumber_20 : decode cX7_scanNumber 20 = .ok (.aload_n 0, 1) := by decide +kernel
theorem dX7_scanNumber_21 : decode cX7_scanNumber 21 = .ok (.getfield 22, 3) := by decide +kernel
theorem dX7_scanNumber_24 : decode cX7_scanNumber 24 = .ok (.iaload, 1) := by decide +kernel
theorem dX7_scanNumber_25 : decode cX7_scanNumber 25 = .ok (.invokestatic 104, 3) := by decide +kernel
theorem dX7_scanNumber_28 : decode cX7_scanNumber 28 = .ok (.ifCond .eq 45, 3) := by decide +kernel
theorem dX7_scanNumber_31 : decode cX7_scanNumber 31 = .ok (.aload_n 0, 1) := by decide +kernel
theorem dX7_scanNumber_32 : decode cX7_scanNumber 32 = .ok (.bipush 101, 2) := by decide +kernel
theorem dX7_scanNumber_34 : decode cX7_scanNumber 34 = .ok (.aload_n 0, 1) := by decide +kernel
theorem dX7_scanNumber_35 : decode cX7_scanNumber 35 = .ok (.getfield 28, 3) := by decide +kernel
theorem dX7_scanNumber_38 : decode cX7_scanNumber 38 = .ok (.bipush 10, 2) := by decide +kernel
theorem dX7_scanNumber_40 : decode cX7_scanNumber 40 = .ok (.imul, 1) := by decide +kernel
theorem dX7_scanNumber_41 : decode cX7_scanNumber 41 = .ok (.aload_n 0, 1) := by decide +kernel
theorem dX7_scanNumber_42 : decode cX7_scanNumber 42 = .ok (.getfield 9, 3) := by decide +kernel
theorem dX7_scanNumber_45 : decode cX7_scanNumber 45 = .ok (.aload_n 0, 1) := by decide +kernel
theorem dX7_scanNumber_46 : decode cX7_scanNumber 46 = .ok (.getfield 22, 3) := by decide +kernel
theorem dX7_scanNumber_49 : decode cX7_scanNumber 49 = .ok (.iaload, 1) := by decide +kernel
theorem dX7_scanNumber_50 : decode cX7_scanNumber 50 = .ok (.iadd, 1) := by decide +kernel
theorem dX7_scanNumber_51 : decode cX7_scanNumber 51 = .ok (.bipush 48, 2) := by decide +kernel
theorem dX7_scanNumber_53 : decode cX7_scanNumber 53 = .ok (.isub, 1) := by decide +kernel
theorem dX7_scanNumber_54 : decode cX7_scanNumber 54 = .ok (.invokestatic 114, 3) := by decide +kernel
theorem dX7_scanNumber_57 : decode cX7_scanNumber 57 = .ok (.putfield 28, 3) := by decide +kernel
theorem dX7_scanNumber_60 : decode cX7_scanNumber 60 = .ok (.aload_n 0, 1) := by decide +kernel
theorem dX7_scanNumber_61 : decode cX7_scanNumber 61 = .ok (.dup, 1) := by decide +kernel
theorem dX7_scanNumber_62 : decode cX7_scanNumber 62 = .ok (.getfield 22, 3) := by decide +kernel
theorem dX7_scanNumber_65 : decode cX7_scanNumber 65 = .ok (.iconst 1, 1) := by decide +kernel
theorem dX7_scanNumber_66 : decode cX7_scanNumber 66 = .ok (.iadd, 1) := by decide +kernel
theorem dX7_scanNumber_67 : decode cX7_scanNumber 67 = .ok (.putfield 22, 3) := by decide +kernel
theorem dX7_scanNumber_70 : decode cX7_scanNumber 70 = .ok (.goto (-65), 3) := by decide +kernel
theorem dX7_scanNumber_73 : decode cX7_scanNumber 73 = .ok (.aload_n 0, 1) := by decide +kernel
theorem dX7_scanNumber_74 : decode cX7_scanNumber 74 = .ok (.getfield 9, 3) := by decide +kernel
theorem dX7_scanNumber_77 : decode cX7_scanNumber 77 = .ok (.aload_n 0, 1) := by decide +kernel
theorem dX7_scanNumber_78 : decode cX7_scanNumber 78 = .ok (.getfield 19, 3) := by decide +kernel
theorem dX7_scanNumber_81 : decode cX7_scanNumber 81 = .ok (.iaload, 1) := by decide +kernel
theorem dX7_scanNumber_82 : decode cX7_scanNumber 82 = .ok (.bipush 48, 2) := by decide +kernel
theorem dX7_scanNumber_84 : decode cX7_scanNumber 84 = .ok (.if_icmp .ne 20, 3) := by decide +kernel
theorem dX7_scanNumber_87 : decode cX7_scanNumber 87 = .ok (.aload_n 0, 1) := by decide +kernel
theorem dX7_scanNumber_88 : decode cX7_scanNumber 88 = .ok (.getfield 22, 3) := by decide +kernel
theorem dX7_scanNumber_91 : decode cX7_scanNumber 91 = .ok (.aload_n 0, 1) := by decide +kernel
theorem dX7_scanNumber_92 : decode cX7_scanNumber 92 = .ok (.getfield 19, 3) := by decide +kernel
theorem dX7_scanNumber_95 : decode cX7_scanNumber 95 = .ok (.isub, 1) := by decide +kernel
theorem dX7_scanNumber_96 : decode cX7_scanNumber 96 = .ok (.iconst 1, 1) := by decide +kernel
theorem dX7_scanNumber_97 : decode cX7_scanNumber 97 = .ok (.if_icmp .le 7, 3) := by decide +kernel
theorem dX7_scanNumber_100 : decode cX7_scanNumber 100 = .ok (.iconst 1, 1) := by decide +kernel
theorem dX7_scanNumber_101 : decode cX7_scanNumber 101 = .ok (.goto 4, 3) := by decide +kernel
theorem dX7_scanNumber_104 : decode cX7_scanNumber 104 = .ok (.iconst 0, 1) := by decide +kernel
theorem dX7_scanNumber_105 : decode cX7_scanNumber 105 = .ok (.istore_n 1, 1) := by decide +kernel
theorem dX7_scanNumber_106 : decode cX7_scanNumber 106 = .ok (.aload_n 0, 1) := by decide +kernel
theorem dX7_scanNumber_107 : decode cX7_scanNumber 107 = .ok (.iload_n 1, 1) := by decide +kernel
theorem dX7_scanNumber_108 : decode cX7_scanNumber 108 = .ok (.ifCond .ne 12, 3) := by decide +kernel
theorem dX7_scanNumber_111 : decode cX7_scanNumber 111 = .ok (.aload_n 0, 1) := by decide +kernel
theorem dX7_scanNumber_112 : decode cX7_scanNumber 112 = .ok (.getfield 28, 3) := by decide +kernel
theorem dX7_scanNumber_115 : decode cX7_scanNumber 115 = .ok (.bipush 100, 2) := by decide +kernel
theorem dX7_scanNumber_117 : decode cX7_scanNumber 117 = .ok (.if_icmp .le 8, 3) := by decide +kernel
theorem dX7_scanNumber_120 : decode cX7_scanNumber 120 = .ok (.bipush (-3), 2) := by decide +kernel
theorem dX7_scanNumber_122 : decode cX7_scanNumber 122 = .ok (.goto 5, 3) := by decide +kernel
theorem dX7_scanNumber_125 : decode cX7_scanNumber 125 = .ok (.bipush (-2), 2) := by decide +kernel
theorem dX7_scanNumber_127 : decode cX7_scanNumber 127 = .ok (.putfield 25, 3) := by decide +kernel
theorem dX7_scanNumber_130 : decode cX7_scanNumber 130 = .ok (.return_, 1) := by decide +kernel
theorem dX7_isDigit_0 : decode cX7_isDigit 0 = .ok (.iload_n 0, 1) := by decide +kernel
theorem dX7_isDigit_1 : decode cX7_isDigit 1 = .ok (.bipush 48, 2) := by decide +kernel
theorem dX7_isDigit_3 : decode cX7_isDigit 3 = .ok (.if_icmp .lt 13, 3) := by decide +kernel
theorem dX7_isDigit_6 : decode cX7_isDigit 6 = .ok (.iload_n 0, 1) := by decide +kernel
theorem dX7_isDigit_7 : decode cX7_isDigit 7 = .ok (.bipush 57, 2) := by decide +kernel
theorem dX7_isDigit_9 : decode cX7_isDigit 9 = .ok (.if_icmp .gt 7, 3) := by decide +kernel
theorem dX7_isDigit_12 : decode cX7_isDigit 12 = .ok (.iconst 1, 1) := by decide +kernel
theorem dX7_isDigit_13 : decode cX7_isDigit 13 = .ok (.goto 4, 3) := by decide +kernel
theorem dX7_isDigit_16 : decode cX7_isDigit 16 = .ok (.iconst 0, 1) := by decide +kernel
theorem dX7_isDigit_17 : decode cX7_isDigit 17 = .ok (.ireturn, 1) := by decide +kernel
theorem dX7_isSign_0 : decode cX7_isSign 0 = .ok (.iload_n 0, 1) := by decide +kernel
theorem dX7_isSign_1 : decode cX7_isSign 1 = .ok (.bipush 116, 2) := by decide +kernel
theorem dX7_isSign_3 : decode cX7_isSign 3 = .ok (.if_icmp .eq 27, 3) := by decide +kernel
theorem dX7_isSign_6 : decode cX7_isSign 6 = .ok (.iload_n 0, 1) := by decide +kernel
theorem dX7_isSign_7 : decode cX7_isSign 7 = .ok (.bipush 104, 2) := by decide +kernel
theorem dX7_isSign_9 : decode cX7_isSign 9 = .ok (.if_icmp .eq 21, 3) := by decide +kernel
theorem dX7_isSign_12 : decode cX7_isSign 12 = .ok (.iload_n 0, 1) := by decide +kernel
theorem dX7_isSign_13 : decode cX7_isSign 13 = .ok (.bipush 99, 2) := by decide +kernel
theorem dX7_isSign_15 : decode cX7_isSign 15 = .ok (.if_icmp .eq 15, 3) := by decide +kernel
theorem dX7_isSign_18 : decode cX7_isSign 18 = .ok (.iload_n 0, 1) := by decide +kernel
theorem dX7_isSign_19 : decode cX7_isSign 19 = .ok (.bipush 100, 2) := by decide +kernel
theorem dX7_isSign_21 : decode cX7_isSign 21 = .ok (.if_icmp .eq 9, 3) := by decide +kernel
theorem dX7_isSign_24 : decode cX7_isSign 24 = .ok (.iload_n 0, 1) := by decide +kernel
theorem dX7_isSign_25 : decode cX7_isSign 25 = .ok (.bipush 59, 2) := by decide +kernel
theorem dX7_isSign_27 : decode cX7_isSign 27 = .ok (.if_icmp .ne 7, 3) := by decide +kernel
theorem dX7_isSign_30 : decode cX7_isSign 30 = .ok (.iconst 1, 1) := by decide +kernel
theorem dX7_isSign_31 : decode cX7_isSign 31 = .ok (.goto 4, 3) := by decide +kernel
theorem dX7_isSign_34 : decode cX7_isSign 34 = .ok (.iconst 0, 1) := by decide +kernel
theorem dX7_isSign_35 : decode cX7_isSign 35 = .ok (.ireturn, 1) := by decide +kernel
theorem dX8_init_0 : decode cX8_init 0 = .ok (.aload_n 0, 1) := by decide +kernel
theorem dX8_init_1 : decode cX8_init 1 = .ok (.invokespecial 1, 3) := by decide +kernel
theorem dX8_init_4 : decode cX8_init 4 = .ok (.return_, 1) := by decide +kernel
theorem dX8_worth_0 : decode cX8_worth 0 = .ok (.aload_n 1, 1) := by decide +kernel
theorem dX8_worth_1 : decode cX8_worth 1 = .ok (.dup, 1) := by decide +kernel
theorem dX8_worth_2 : decode cX8_worth 2 = .ok (.getfield 7, 3) := by decide +kernel
theorem dX8_worth_5 : decode cX8_worth 5 = .ok (.ldc2_w 13, 3) := by decide +kernel
theorem dX8_worth_8 : decode cX8_worth 8 = .ok (.ladd, 1) := by decide +kernel
theorem dX8_worth_9 : decode cX8_worth 9 = .ok (.putfield 7, 3) := by decide +kernel
theorem dX8_worth_12 : decode cX8_worth 12 = .ok (.aload_n 0, 1) := by decide +kernel
theorem dX8_worth_13 : decode cX8_worth 13 = .ok (.aload_n 1, 1) := by decide +kernel
theorem dX8_worth_14 : decode cX8_worth 14 = .ok (.iload_n 2, 1) := by decide +kernel
theorem dX8_worth_15 : decode cX8_worth 15 = .ok (.invokespecial 15, 3) := by decide +kernel
theorem dX8_worth_18 : decode cX8_worth 18 = .ok (.aload_n 1, 1) := by decide +kernel
theorem dX8_worth_19 : decode cX8_worth 19 = .ok (.getfield 19, 3) := by decide +kernel
theorem dX8_worth_22 : decode cX8_worth 22 = .ok (.getfield 23, 3) := by decide +kernel
theorem dX8_worth_25 : decode cX8_worth 25 = .ok (.iload_n 2, 1) := by decide +kernel
theorem dX8_worth_26 : decode cX8_worth 26 = .ok (.iaload, 1) := by decide +kernel
theorem dX8_worth_27 : decode cX8_worth 27 = .ok (.iadd, 1) := by decide +kernel
theorem dX8_worth_28 : decode cX8_worth 28 = .ok (.ireturn, 1) := by decide +kernel
theorem dX9_init_0 : decode cX9_init 0 = .ok (.aload_n 0, 1) := by decide +kernel
theorem dX9_init_1 : decode cX9_init 1 = .ok (.invokespecial 1, 3) := by decide +kernel
theorem dX9_init_4 : decode cX9_init 4 = .ok (.return_, 1) := by decide +kernel
theorem dX9_worth_0 : decode cX9_worth 0 = .ok (.aload_n 1, 1) := by decide +kernel
theorem dX9_worth_1 : decode cX9_worth 1 = .ok (.dup, 1) := by decide +kernel
theorem dX9_worth_2 : decode cX9_worth 2 = .ok (.getfield 7, 3) := by decide +kernel
theorem dX9_worth_5 : decode cX9_worth 5 = .ok (.lconst 1, 1) := by decide +kernel
theorem dX9_worth_6 : decode cX9_worth 6 = .ok (.ladd, 1) := by decide +kernel
theorem dX9_worth_7 : decode cX9_worth 7 = .ok (.putfield 7, 3) := by decide +kernel
theorem dX9_worth_10 : decode cX9_worth 10 = .ok (.aload_n 1, 1) := by decide +kernel
theorem dX9_worth_11 : decode cX9_worth 11 = .ok (.getfield 13, 3) := by decide +kernel
theorem dX9_worth_14 : decode cX9_worth 14 = .ok (.getfield 17, 3) := by decide +kernel
theorem dX9_worth_17 : decode cX9_worth 17 = .ok (.iload_n 2, 1) := by decide +kernel
theorem dX9_worth_18 : decode cX9_worth 18 = .ok (.iaload, 1) := by decide +kernel
theorem dX9_worth_19 : decode cX9_worth 19 = .ok (.ireturn, 1) := by decide +kernel
theorem dX10_init_0 : decode cX10_init 0 = .ok (.aload_n 0, 1) := by decide +kernel
theorem dX10_init_1 : decode cX10_init 1 = .ok (.invokespecial 3, 3) := by decide +kernel
theorem dX10_init_4 : decode cX10_init 4 = .ok (.aload_n 0, 1) := by decide +kernel
theorem dX10_init_5 : decode cX10_init 5 = .ok (.iconst 0, 1) := by decide +kernel
theorem dX10_init_6 : decode cX10_init 6 = .ok (.putfield 9, 3) := by decide +kernel
theorem dX10_init_9 : decode cX10_init 9 = .ok (.aload_n 0, 1) := by decide +kernel
theorem dX10_init_10 : decode cX10_init 10 = .ok (.iconst 1, 1) := by decide +kernel
theorem dX10_init_11 : decode cX10_init 11 = .ok (.putfield 15, 3) := by decide +kernel
theorem dX10_init_14 : decode cX10_init 14 = .ok (.aload_n 0, 1) := by decide +kernel
theorem dX10_init_15 : decode cX10_init 15 = .ok (.iconst 0, 1) := by decide +kernel
theorem dX10_init_16 : decode cX10_init 16 = .ok (.putfield 18, 3) := by decide +kernel
theorem dX10_init_19 : decode cX10_init 19 = .ok (.aload_n 0, 1) := by decide +kernel
theorem dX10_init_20 : decode cX10_init 20 = .ok (.iconst 0, 1) := by decide +kernel
theorem dX10_init_21 : decode cX10_init 21 = .ok (.putfield 21, 3) := by decide +kernel
theorem dX10_init_24 : decode cX10_init 24 = .ok (.aload_n 0, 1) := by decide +kernel
theorem dX10_init_25 : decode cX10_init 25 = .ok (.iconst 5, 1) := by decide +kernel
theorem dX10_init_26 : decode cX10_init 26 = .ok (.newarray .int, 2) := by decide +kernel
theorem dX10_init_28 : decode cX10_init 28 = .ok (.putfield 24, 3) := by decide +kernel
theorem dX10_init_31 : decode cX10_init 31 = .ok (.aload_n 0, 1) := by decide +kernel
theorem dX10_init_32 : decode cX10_init 32 = .ok (.iconst 5, 1) := by decide +kernel
theorem dX10_init_33 : decode cX10_init 33 = .ok (.newarray .int, 2) := by decide +kernel
theorem dX10_init_35 : decode cX10_init 35 = .ok (.putfield 28, 3) := by decide +kernel
theorem dX10_init_38 : decode cX10_init 38 = .ok (.aload_n 0, 1) := by decide +kernel
theorem dX10_init_39 : decode cX10_init 39 = .ok (.iconst 5, 1) := by decide +kernel
theorem dX10_init_40 : decode cX10_init 40 = .ok (.newarray .int, 2) := by decide +kernel
theorem dX10_init_42 : decode cX10_init 42 = .ok (.putfield 31, 3) := by decide +kernel
theorem dX10_init_45 : decode cX10_init 45 = .ok (.aload_n 0, 1) := by decide +kernel
theorem dX10_init_46 : decode cX10_init 46 = .ok (.bipush 8, 2) := by decide +kernel
theorem dX10_init_48 : decode cX10_init 48 = .ok (.newarray .int, 2) := by decide +kernel
theorem dX10_init_50 : decode cX10_init 50 = .ok (.putfield 34, 3) := by decide +kernel
theorem dX10_init_53 : decode cX10_init 53 = .ok (.aload_n 0, 1) := by decide +kernel
theorem dX10_init_54 : decode cX10_init 54 = .ok (.bipush 8, 2) := by decide +kernel
theorem dX10_init_56 : decode cX10_init 56 = .ok (.newarray .int, 2) := by decide +kernel
theorem dX10_init_58 : decode cX10_init 58 = .ok (.putfield 37, 3) := by decide +kernel
theorem dX10_init_61 : decode cX10_init 61 = .ok (.aload_n 0, 1) := by decide +kernel
theorem dX10_init_62 : decode cX10_init 62 = .ok (.bipush 8, 2) := by decide +kernel
theorem dX10_init_64 : decode cX10_init 64 = .ok (.newarray .int, 2) := by decide +kernel
theorem dX10_init_66 : decode cX10_init 66 = .ok (.putfield 40, 3) := by decide +kernel
theorem dX10_init_69 : decode cX10_init 69 = .ok (.aload_n 0, 1) := by decide +kernel
theorem dX10_init_70 : decode cX10_init 70 = .ok (.iconst 2, 1) := by decide +kernel
theorem dX10_init_71 : decode cX10_init 71 = .ok (.newarray .int, 2) := by decide +kernel
theorem dX10_init_73 : decode cX10_init 73 = .ok (.putfield 43, 3) := by decide +kernel
theorem dX10_init_76 : decode cX10_init 76 = .ok (.aload_n 0, 1) := by decide +kernel
theorem dX10_init_77 : decode cX10_init 77 = .ok (.iconst 2, 1) := by decide +kernel
theorem dX10_init_78 : decode cX10_init 78 = .ok (.newarray .int, 2) := by decide +kernel
theorem dX10_init_80 : decode cX10_init 80 = .ok (.putfield 46, 3) := by decide +kernel
theorem dX10_init_83 : decode cX10_init 83 = .ok (.return_, 1) := by decide +kernel
theorem dX10_empty_0 : decode cX10_empty 0 = .ok (.aload_n 0, 1) := by decide +kernel
theorem dX10_empty_1 : decode cX10_empty 1 = .ok (.iconst 0, 1) := by decide +kernel
theorem dX10_empty_2 : decode cX10_empty 2 = .ok (.putfield 9, 3) := by decide +kernel
theorem dX10_empty_5 : decode cX10_empty 5 = .ok (.aload_n 0, 1) := by decide +kernel
theorem dX10_empty_6 : decode cX10_empty 6 = .ok (.iconst 1, 1) := by decide +kernel
theorem dX10_empty_7 : decode cX10_empty 7 = .ok (.putfield 15, 3) := by decide +kernel
theorem dX10_empty_10 : decode cX10_empty 10 = .ok (.aload_n 0, 1) := by decide +kernel
theorem dX10_empty_11 : decode cX10_empty 11 = .ok (.iconst 0, 1) := by decide +kernel
theorem dX10_empty_12 : decode cX10_empty 12 = .ok (.putfield 18, 3) := by decide +kernel
theorem dX10_empty_15 : decode cX10_empty 15 = .ok (.aload_n 0, 1) := by decide +kernel
theorem dX10_empty_16 : decode cX10_empty 16 = .ok (.iconst 0, 1) := by decide +kernel
theorem dX10_empty_17 : decode cX10_empty 17 = .ok (.putfield 21, 3) := by decide +kernel
theorem dX10_empty_20 : decode cX10_empty 20 = .ok (.return_, 1) := by decide +kernel
theorem dX10_take_0 : decode cX10_take 0 = .ok (.aload_n 0, 1) := by decide +kernel
theorem dX10_take_1 : decode cX10_take 1 = .ok (.aload_n 1, 1) := by decide +kernel
theorem dX10_take_2 : decode cX10_take 2 = .ok (.getfield 9, 3) := by decide +kernel
theorem dX10_take_5 : decode cX10_take 5 = .ok (.putfield 9, 3) := by decide +kernel
theorem dX10_take_8 : decode cX10_take 8 = .ok (.aload_n 0, 1) := by decide +kernel
theorem dX10_take_9 : decode cX10_take 9 = .ok (.aload_n 1, 1) := by decide +kernel
theorem dX10_take_10 : decode cX10_take 10 = .ok (.getfield 15, 3) := by decide +kernel
theorem dX10_take_13 : decode cX10_take 13 = .ok (.putfield 15, 3) := by decide +kernel
theorem dX10_take_16 : decode cX10_take 16 = .ok (.aload_n 0, 1) := by decide +kernel
theorem dX10_take_17 : decode cX10_take 17 = .ok (.aload_n 1, 1) := by decide +kernel
theorem dX10_take_18 : decode cX10_take 18 = .ok (.getfield 18, 3) := by decide +kernel
theorem dX10_take_21 : decode cX10_take 21 = .ok (.putfield 18, 3) := by decide +kernel
theorem dX10_take_24 : decode cX10_take 24 = .ok (.aload_n 0, 1) := by decide +kernel
theorem dX10_take_25 : decode cX10_take 25 = .ok (.aload_n 1, 1) := by decide +kernel
theorem dX10_take_26 : decode cX10_take 26 = .ok (.getfield 21, 3) := by decide +kernel
theorem dX10_take_29 : decode cX10_take 29 = .ok (.putfield 21, 3) := by decide +kernel
theorem dX10_take_32 : decode cX10_take 32 = .ok (.aload_n 1, 1) := by decide +kernel
theorem dX10_take_33 : decode cX10_take 33 = .ok (.getfield 24, 3) := by decide +kernel
theorem dX10_take_36 : decode cX10_take 36 = .ok (.iconst 0, 1) := by decide +kernel
theorem dX10_take_37 : decode cX10_take 37 = .ok (.aload_n 0, 1) := by decide +kernel
theorem dX10_take_38 : decode cX10_take 38 = .ok (.getfield 24, 3) := by decide +kernel
theorem dX10_take_41 : decode cX10_take 41 = .ok (.iconst 0, 1) := by decide +kernel
theorem dX10_take_42 : decode cX10_take 42 = .ok (.iconst 5, 1) := by decide +kernel
theorem dX10_take_43 : decode cX10_take 43 = .ok (.invokestatic 49, 3) := by decide +kernel
theorem dX10_take_46 : decode cX10_take 46 = .ok (.aload_n 1, 1) := by decide +kernel
theorem dX10_take_47 : decode cX10_take 47 = .ok (.getfield 28, 3) := by decide +kernel
theorem dX10_take_50 : decode cX10_take 50 = .ok (.iconst 0, 1) := by decide +kernel
theorem dX10_take_51 : decode cX10_take 51 = .ok (.aload_n 0, 1) := by decide +kernel
theorem dX10_take_52 : decode cX10_take 52 = .ok (.getfield 28, 3) := by decide +kernel
theorem dX10_take_55 : decode cX10_take 55 = .ok (.iconst 0, 1) := by decide +kernel
theorem dX10_take_56 : decode cX10_take 56 = .ok (.iconst 5, 1) := by decide +kernel
theorem dX10_take_57 : decode cX10_take 57 = .ok (.invokestatic 49, 3) := by decide +kernel
theorem dX10_take_60 : decode cX10_take 60 = .ok (.aload_n 1, 1) := by decide +kernel
theorem dX10_take_61 : decode cX10_take 61 = .ok (.getfield 31, 3) := by decide +kernel
theorem dX10_take_64 : decode cX10_take 64 = .ok (.iconst 0, 1) := by decide +kernel
theorem dX10_take_65 : decode cX10_take 65 = .ok (.aload_n 0, 1) := by decide +kernel
theorem dX10_take_66 : decode cX10_take 66 = .ok (.getfield 31, 3) := by decide +kernel
theorem dX10_take_69 : decode cX10_take 69 = .ok (.iconst 0, 1) := by decide +kernel
theorem dX10_take_70 : decode cX10_take 70 = .ok (.iconst 5, 1) := by decide +kernel
theorem dX10_take_71 : decode cX10_take 71 = .ok (.invokestatic 49, 3) := by decide +kernel
theorem dX10_take_74 : decode cX10_take 74 = .ok (.aload_n 1, 1) := by decide +kernel
theorem dX10_take_75 : decode cX10_take 75 = .ok (.getfield 34, 3) := by decide +kernel
theorem dX10_take_78 : decode cX10_take 78 = .ok (.iconst 0, 1) := by decide +kernel
theorem dX10_take_79 : decode cX10_take 79 = .ok (.aload_n 0, 1) := by decide +kernel
theorem dX10_take_80 : decode cX10_take 80 = .ok (.getfield 34, 3) := by decide +kernel
theorem dX10_take_83 : decode cX10_take 83 = .ok (.iconst 0, 1) := by decide +kernel
theorem dX10_take_84 : decode cX10_take 84 = .ok (.bipush 8, 2) := by decide +kernel
theorem dX10_take_86 : decode cX10_take 86 = .ok (.invokestatic 49, 3) := by decide +kernel
theorem dX10_take_89 : decode cX10_take 89 = .ok (.aload_n 1, 1) := by decide +kernel
theorem dX10_take_90 : decode cX10_take 90 = .ok (.getfield 37, 3) := by decide +kernel
theorem dX10_take_93 : decode cX10_take 93 = .ok (.iconst 0, 1) := by decide +kernel
theorem dX10_take_94 : decode cX10_take 94 = .ok (.aload_n 0, 1) := by decide +kernel
theorem dX10_take_95 : decode cX10_take 95 = .ok (.getfield 37, 3) := by decide +kernel
theorem dX10_take_98 : decode cX10_take 98 = .ok (.iconst 0, 1) := by decide +kernel
theorem dX10_take_99 : decode cX10_take 99 = .ok (.bipush 8, 2) := by decide +kernel
theorem dX10_take_101 : decode cX10_take 101 = .ok (.invokestatic 49, 3) := by decide +kernel
theorem dX10_take_104 : decode cX10_take 104 = .ok (.aload_n 1, 1) := by decide +kernel
theorem dX10_take_105 : decode cX10_take 105 = .ok (.getfield 40, 3) := by decide +kernel
theorem dX10_take_108 : decode cX10_take 108 = .ok (.iconst 0, 1) := by decide +kernel
theorem dX10_take_109 : decode cX10_take 109 = .ok (.aload_n 0, 1) := by decide +kernel
theorem dX10_take_110 : decode cX10_take 110 = .ok (.getfield 40, 3) := by decide +kernel
theorem dX10_take_113 : decode cX10_take 113 = .ok (.iconst 0, 1) := by decide +kernel
theorem dX10_take_114 : decode cX10_take 114 = .ok (.bipush 8, 2) := by decide +kernel
theorem dX10_take_116 : decode cX10_take 116 = .ok (.invokestatic 49, 3) := by decide +kernel
theorem dX10_take_119 : decode cX10_take 119 = .ok (.aload_n 1, 1) := by decide +kernel
theorem dX10_take_120 : decode cX10_take 120 = .ok (.getfield 43, 3) := by decide +kernel
theorem dX10_take_123 : decode cX10_take 123 = .ok (.iconst 0, 1) := by decide +kernel
theorem dX10_take_124 : decode cX10_take 124 = .ok (.aload_n 0, 1) := by decide +kernel
theorem dX10_take_125 : decode cX10_take 125 = .ok (.getfield 43, 3) := by decide +kernel
theorem dX10_take_128 : decode cX10_take 128 = .ok (.iconst 0, 1) := by decide +kernel
theorem dX10_take_129 : decode cX10_take 129 = .ok (.iconst 2, 1) := by decide +kernel
theorem dX10_take_130 : decode cX10_take 130 = .ok (.invokestatic 49, 3) := by decide +kernel
theorem dX10_take_133 : decode cX10_take 133 = .ok (.aload_n 1, 1) := by decide +kernel
theorem dX10_take_134 : decode cX10_take 134 = .ok (.getfield 46, 3) := by decide +kernel
theorem dX10_take_137 : decode cX10_take 137 = .ok (.iconst 0, 1) := by decide +kernel
theorem dX10_take_138 : decode cX10_take 138 = .ok (.aload_n 0, 1) := by decide +kernel
theorem dX10_take_139 : decode cX10_take 139 = .ok (.getfield 46, 3) := by decide +kernel
theorem dX10_take_142 : decode cX10_take 142 = .ok (.iconst 0, 1) := by decide +kernel
theorem dX10_take_143 : decode cX10_take 143 = .ok (.iconst 2, 1) := by decide +kernel
theorem dX10_take_144 : decode cX10_take 144 = .ok (.invokestatic 49, 3) := by decide +kernel
theorem dX10_take_147 : decode cX10_take 147 = .ok (.return_, 1) := by decide +kernel
theorem dX10_canBeOn_0 : decode cX10_canBeOn 0 = .ok (.iload_n 1, 1) := by decide +kernel
theorem dX10_canBeOn_1 : decode cX10_canBeOn 1 = .ok (.ifCond .lt 28, 3) := by decide +kernel
theorem dX10_canBeOn_4 : decode cX10_canBeOn 4 = .ok (.iload_n 1, 1) := by decide +kernel
theorem dX10_canBeOn_5 : decode cX10_canBeOn 5 = .ok (.iconst 1, 1) := by decide +kernel
theorem dX10_canBeOn_6 : decode cX10_canBeOn 6 = .ok (.aload_n 0, 1) := by decide +kernel
theorem dX10_canBeOn_7 : decode cX10_canBeOn 7 = .ok (.getfield 9, 3) := by decide +kernel
theorem dX10_canBeOn_10 : decode cX10_canBeOn 10 = .ok (.ishl, 1) := by decide +kernel
theorem dX10_canBeOn_11 : decode cX10_canBeOn 11 = .ok (.if_icmp .ge 18, 3) := by decide +kernel
theorem dX10_canBeOn_14 : decode cX10_canBeOn 14 = .ok (.iload_n 1, 1) := by decide +kernel
theorem dX10_canBeOn_15 : decode cX10_canBeOn 15 = .ok (.invokestatic 55, 3) := by decide +kernel
theorem dX10_canBeOn_18 : decode cX10_canBeOn 18 = .ok (.aload_n 0, 1) := by decide +kernel
theorem dX10_canBeOn_19 : decode cX10_canBeOn 19 = .ok (.getfield 15, 3) := by decide +kernel
theorem dX10_canBeOn_22 : decode cX10_canBeOn 22 = .ok (.if_icmp .gt 7, 3) := by decide +kernel
theorem dX10_canBeOn_25 : decode cX10_canBeOn 25 = .ok (.iconst 1, 1) := by decide +kernel
theorem dX10_canBeOn_26 : decode cX10_canBeOn 26 = .ok (.goto 4, 3) := by decide +kernel
theorem dX10_canBeOn_29 : decode cX10_canBeOn 29 = .ok (.iconst 0, 1) := by decide +kernel
theorem dX10_canBeOn_30 : decode cX10_canBeOn 30 = .ok (.ireturn, 1) := by decide +kernel
theorem dX10_isDark_0 : decode cX10_isDark 0 = .ok (.iconst 0, 1) := by decide +kernel
theorem dX10_isDark_1 : decode cX10_isDark 1 = .ok (.istore_n 2, 1) := by decide +kernel
theorem dX10_isDark_2 : decode cX10_isDark 2 = .ok (.iload_n 2, 1) := by decide +kernel
theorem dX10_isDark_3 : decode cX10_isDark 3 = .ok (.aload_n 0, 1) := by decide +kernel
theorem dX10_isDark_4 : decode cX10_isDark 4 = .ok (.getfield 21, 3) := by decide +kernel
theorem dX10_isDark_7 : decode cX10_isDark 7 = .ok (.if_icmp .ge 31, 3) := by decide +kernel
theorem dX10_isDark_10 : decode cX10_isDark 10 = .ok (.iload_n 1, 1) := by decide +kernel
theorem dX10_isDark_11 : decode cX10_isDark 11 = .ok (.aload_n 0, 1) := by decide +kernel
theorem dX10_isDark_12 : decode cX10_isDark 12 = .ok (.getfield 43, 3) := by decide +kernel
theorem dX10_isDark_15 : decode cX10_isDark 15 = .ok (.iload_n 2, 1) := by decide +kernel
theorem dX10_isDark_16 : decode cX10_isDark 16 = .ok (.iaload, 1) := by decide +kernel
theorem dX10_isDark_17 : decode cX10_isDark 17 = .ok (.if_icmp .lt 15, 3) := by decide +kernel
theorem dX10_isDark_20 : decode cX10_isDark 20 = .ok (.iload_n 1, 1) := by decide +kernel
theorem dX10_isDark_21 : decode cX10_isDark 21 = .ok (.aload_n 0, 1) := by decide +kernel
theorem dX10_isDark_22 : decode cX10_isDark 22 = .ok (.getfield 46, 3) := by decide +kernel
theorem dX10_isDark_25 : decode cX10_isDark 25 = .ok (.iload_n 2, 1) := by decide +kernel
theorem dX10_isDark_26 : decode cX10_isDark 26 = .ok (.iaload, 1) := by decide +kernel
theorem dX10_isDark_27 : decode cX10_isDark 27 = .ok (.if_icmp .gt 5, 3) := by decide +kernel
theorem dX10_isDark_30 : decode cX10_isDark 30 = .ok (.iconst 1, 1) := by decide +kernel
theorem dX10_isDark_31 : decode cX10_isDark 31 = .ok (.ireturn, 1) := by decide +kernel
theorem dX10_isDark_32 : decode cX10_isDark 32 = .ok (.iinc 2 1, 3) := by decide +kernel
theorem dX10_isDark_35 : decode cX10_isDark 35 = .ok (.goto (-33), 3) := by decide +kernel
theorem dX10_isDark_38 : decode cX10_isDark 38 = .ok (.iconst 0, 1) := by decide +kernel
theorem dX10_isDark_39 : decode cX10_isDark 39 = .ok (.ireturn, 1) := by decide +kernel
theorem dX10_isCallOf_0 : decode cX10_isCallOf 0 = .ok (.aload_n 0, 1) := by decide +kernel
theorem dX10_isCallOf_1 : decode cX10_isCallOf 1 = .ok (.getfield 34, 3) := by decide +kernel
theorem dX10_isCallOf_4 : decode cX10_isCallOf 4 = .ok (.iload_n 1, 1) := by decide +kernel
theorem dX10_isCallOf_5 : decode cX10_isCallOf 5 = .ok (.iaload, 1) := by decide +kernel
theorem dX10_isCallOf_6 : decode cX10_isCallOf 6 = .ok (.iload_n 2, 1) := by decide +kernel
theorem dX10_isCallOf_7 : decode cX10_isCallOf 7 = .ok (.if_icmp .ne 17, 3) := by decide +kernel
theorem dX10_isCallOf_10 : decode cX10_isCallOf 10 = .ok (.aload_n 0, 1) := by decide +kernel
theorem dX10_isCallOf_11 : decode cX10_isCallOf 11 = .ok (.getfield 37, 3) := by decide +kernel
theorem dX10_isCallOf_14 : decode cX10_isCallOf 14 = .ok (.iload_n 1, 1) := by decide +kernel
theorem dX10_isCallOf_15 : decode cX10_isCallOf 15 = .ok (.iaload, 1) := by decide +kernel
theorem dX10_isCallOf_16 : decode cX10_isCallOf 16 = .ok (.iload_n 3, 1) := by decide +kernel
theorem dX10_isCallOf_17 : decode cX10_isCallOf 17 = .ok (.if_icmp .ne 7, 3) := by decide +kernel
theorem dX10_isCallOf_20 : decode cX10_isCallOf 20 = .ok (.iconst 1, 1) := by decide +kernel
theorem dX10_isCallOf_21 : decode cX10_isCallOf 21 = .ok (.goto 4, 3) := by decide +kernel
theorem dX10_isCallOf_24 : decode cX10_isCallOf 24 = .ok (.iconst 0, 1) := by decide +kernel
theorem dX10_isCallOf_25 : decode cX10_isCallOf 25 = .ok (.ireturn, 1) := by decide +kernel
theorem dX10_callsOf_0 : decode cX10_callsOf 0 = .ok (.iconst 0, 1) := by decide +kernel
theorem dX10_callsOf_1 : decode cX10_callsOf 1 = .ok (.istore_n 2, 1) := by decide +kernel
theorem dX10_callsOf_2 : decode cX10_callsOf 2 = .ok (.iconst 0, 1) := by decide +kernel
theorem dX10_callsOf_3 : decode cX10_callsOf 3 = .ok (.istore_n 3, 1) := by decide +kernel
theorem dX10_callsOf_4 : decode cX10_callsOf 4 = .ok (.iload_n 3, 1) := by decide +kernel
theorem dX10_callsOf_5 : decode cX10_callsOf 5 = .ok (.aload_n 0, 1) := by decide +kernel
theorem dX10_callsOf_6 : decode cX10_callsOf 6 = .ok (.getfield 18, 3) := by decide +kernel
theorem dX10_callsOf_9 : decode cX10_callsOf 9 = .ok (.if_icmp .ge 22, 3) := by decide +kernel
theorem dX10_callsOf_12 : decode cX10_callsOf 12 = .ok (.aload_n 0, 1) := by decide +kernel
theorem dX10_callsOf_13 : decode cX10_callsOf 13 = .ok (.getfield 34, 3) := by decide +kernel
theorem dX10_callsOf_16 : decode cX10_callsOf 16 = .ok (.iload_n 3, 1) := by decide +kernel
theorem dX10_callsOf_17 : decode cX10_callsOf 17 = .ok (.iaload, 1) := by decide +kernel
theorem dX10_callsOf_18 : decode cX10_callsOf 18 = .ok (.iload_n 1, 1) := by decide +kernel
theorem dX10_callsOf_19 : decode cX10_callsOf 19 = .ok (.if_icmp .ne 6, 3) := by decide +kernel
theorem dX10_callsOf_22 : decode cX10_callsOf 22 = .ok (.iinc 2 1, 3) := by decide +kernel
theorem dX10_callsOf_25 : decode cX10_callsOf 25 = .ok (.iinc 3 1, 3) := by decide +kernel
theorem dX10_callsOf_28 : decode cX10_callsOf 28 = .ok (.goto (-24), 3) := by decide +kernel
theorem dX10_callsOf_31 : decode cX10_callsOf 31 = .ok (.iload_n 2, 1) := by decide +kernel
theorem dX10_callsOf_32 : decode cX10_callsOf 32 = .ok (.ireturn, 1) := by decide +kernel
theorem dX10_missedAt_0 : decode cX10_missedAt 0 = .ok (.iload_n 3, 1) := by decide +kernel
theorem dX10_missedAt_1 : decode cX10_missedAt 1 = .ok (.istore 4, 2) := by decide +kernel
theorem dX10_missedAt_3 : decode cX10_missedAt 3 = .ok (.iconst 0, 1) := by decide +kernel
theorem dX10_missedAt_4 : decode cX10_missedAt 4 = .ok (.istore 5, 2) := by decide +kernel
theorem dX10_missedAt_6 : decode cX10_missedAt 6 = .ok (.iconst 0, 1) := by decide +kernel
theorem dX10_missedAt_7 : decode cX10_missedAt 7 = .ok (.istore 6, 2) := by decide +kernel
theorem dX10_missedAt_9 : decode cX10_missedAt 9 = .ok (.iload 6, 2) := by decide +kernel
theorem dX10_missedAt_11 : decode cX10_missedAt 11 = .ok (.aload_n 0, 1) := by decide +kernel
theorem dX10_missedAt_12 : decode cX10_missedAt 12 = .ok (.getfield 18, 3) := by decide +kernel
theorem dX10_missedAt_15 : decode cX10_missedAt 15 = .ok (.if_icmp .ge 50, 3) := by decide +kernel
theorem dX10_missedAt_18 : decode cX10_missedAt 18 = .ok (.aload_n 0, 1) := by decide +kernel
theorem dX10_missedAt_19 : decode cX10_missedAt 19 = .ok (.iload 6, 2) := by decide +kernel
theorem dX10_missedAt_21 : decode cX10_missedAt 21 = .ok (.iload_n 2, 1) := by decide +kernel
theorem dX10_missedAt_22 : decode cX10_missedAt 22 = .ok (.iload_n 1, 1) := by decide +kernel
theorem dX10_missedAt_23 : decode cX10_missedAt 23 = .ok (.invokevirtual 61, 3) := by decide +kernel
theorem dX10_missedAt_26 : decode cX10_missedAt 26 = .ok (.ifCond .eq 33, 3) := by decide +kernel
theorem dX10_missedAt_29 : decode cX10_missedAt 29 = .ok (.iload 4, 2) := by decide +kernel
theorem dX10_missedAt_31 : decode cX10_missedAt 31 = .ok (.aload_n 0, 1) := by decide +kernel
theorem dX10_missedAt_32 : decode cX10_missedAt 32 = .ok (.getfield 40, 3) := by decide +kernel
theorem dX10_missedAt_35 : decode cX10_missedAt 35 = .ok (.iload 6, 2) := by decide +kernel
theorem dX10_missedAt_37 : decode cX10_missedAt 37 = .ok (.iaload, 1) := by decide +kernel
theorem dX10_missedAt_38 : decode cX10_missedAt 38 = .ok (.if_icmp .lt 18, 3) := by decide +kernel
theorem dX10_missedAt_41 : decode cX10_missedAt 41 = .ok (.iload 4, 2) := by decide +kernel
theorem dX10_missedAt_43 : decode cX10_missedAt 43 = .ok (.aload_n 0, 1) := by decide +kernel
theorem dX10_missedAt_44 : decode cX10_missedAt 44 = .ok (.getfield 40, 3) := by decide +kernel
theorem dX10_missedAt_47 : decode cX10_missedAt 47 = .ok (.iload 6, 2) := by decide +kernel
theorem dX10_missedAt_49 : decode cX10_missedAt 49 = .ok (.iaload, 1) := by decide +kernel
theorem dX10_missedAt_50 : decode cX10_missedAt 50 = .ok (.isub, 1) := by decide +kernel
theorem dX10_missedAt_51 : decode cX10_missedAt 51 = .ok (.istore 4, 2) := by decide +kernel
theorem dX10_missedAt_53 : decode cX10_missedAt 53 = .ok (.goto 6, 3) := by decide +kernel
theorem dX10_missedAt_56 : decode cX10_missedAt 56 = .ok (.iinc 5 1, 3) := by decide +kernel
theorem dX10_missedAt_59 : decode cX10_missedAt 59 = .ok (.iinc 6 1, 3) := by decide +kernel
theorem dX10_missedAt_62 : decode cX10_missedAt 62 = .ok (.goto (-53), 3) := by decide +kernel
theorem dX10_missedAt_65 : decode cX10_missedAt 65 = .ok (.iload 5, 2) := by decide +kernel
theorem dX10_missedAt_67 : decode cX10_missedAt 67 = .ok (.ireturn, 1) := by decide +kernel
theorem dX10_leftByCalls_0 : decode cX10_leftByCalls 0 = .ok (.iload_n 3, 1) := by decide +kernel
theorem dX10_leftByCalls_1 : decode cX10_leftByCalls 1 = .ok (.istore 4, 2) := by decide +kernel
theorem dX10_leftByCalls_3 : decode cX10_leftByCalls 3 = .ok (.iconst 0, 1) := by decide +kernel
theorem dX10_leftByCalls_4 : decode cX10_leftByCalls 4 = .ok (.istore 5, 2) := by decide +kernel
theorem dX10_leftByCalls_6 : decode cX10_leftByCalls 6 = .ok (.iload 5, 2) := by decide +kernel
theorem dX10_leftByCalls_8 : decode cX10_leftByCalls 8 = .ok (.aload_n 0, 1) := by decide +kernel
theorem dX10_leftByCalls_9 : decode cX10_leftByCalls 9 = .ok (.getfield 18, 3) := by decide +kernel
theorem dX10_leftByCalls_12 : decode cX10_leftByCalls 12 = .ok (.if_icmp .ge 44, 3) := by decide +kernel
theorem dX10_leftByCalls_15 : decode cX10_leftByCalls 15 = .ok (.aload_n 0, 1) := by decide +kernel
theorem dX10_leftByCalls_16 : decode cX10_leftByCalls 16 = .ok (.iload 5, 2) := by decide +kernel
theorem dX10_leftByCalls_18 : decode cX10_leftByCalls 18 = .ok (.iload_n 2, 1) := by decide +kernel
theorem dX10_leftByCalls_19 : decode cX10_leftByCalls 19 = .ok (.iload_n 1, 1) := by decide +kernel
theorem dX10_leftByCalls_20 : decode cX10_leftByCalls 20 = .ok (.invokevirtual 61, 3) := by decide +kernel
theorem dX10_leftByCalls_23 : decode cX10_leftByCalls 23 = .ok (.ifCond .eq 27, 3) := by decide +kernel
theorem dX10_leftByCalls_26 : decode cX10_leftByCalls 26 = .ok (.iload 4, 2) := by decide +kernel
theorem dX10_leftByCalls_28 : decode cX10_leftByCalls 28 = .ok (.aload_n 0, 1) := by decide +kernel
theorem dX10_leftByCalls_29 : decode cX10_leftByCalls 29 = .ok (.getfield 40, 3) := by decide +kernel
theorem dX10_leftByCalls_32 : decode cX10_leftByCalls 32 = .ok (.iload 5, 2) := by decide +kernel
theorem dX10_leftByCalls_34 : decode cX10_leftByCalls 34 = .ok (.iaload, 1) := by decide +kernel
theorem dX10_leftByCalls_35 : decode cX10_leftByCalls 35 = .ok (.if_icmp .lt 15, 3) := by decide +kernel
theorem dX10_leftByCalls_38 : decode cX10_leftByCalls 38 = .ok (.iload 4, 2) := by decide +kernel
theorem dX10_leftByCalls_40 : decode cX10_leftByCalls 40 = .ok (.aload_n 0, 1) := by decide +kernel
theorem dX10_leftByCalls_41 : decode cX10_leftByCalls 41 = .ok (.getfield 40, 3) := by decide +kernel
theorem dX10_leftByCalls_44 : decode cX10_leftByCalls 44 = .ok (.iload 5, 2) := by decide +kernel
theorem dX10_leftByCalls_46 : decode cX10_leftByCalls 46 = .ok (.iaload, 1) := by decide +kernel
theorem dX10_leftByCalls_47 : decode cX10_leftByCalls 47 = .ok (.isub, 1) := by decide +kernel
theorem dX10_leftByCalls_48 : decode cX10_leftByCalls 48 = .ok (.istore 4, 2) := by decide +kernel
theorem dX10_leftByCalls_50 : decode cX10_leftByCalls 50 = .ok (.iinc 5 1, 3) := by decide +kernel
theorem dX10_leftByCalls_53 : decode cX10_leftByCalls 53 = .ok (.goto (-47), 3) := by decide +kernel
theorem dX10_leftByCalls_56 : decode cX10_leftByCalls 56 = .ok (.iload 4, 2) := by decide +kernel
theorem dX10_leftByCalls_58 : decode cX10_leftByCalls 58 = .ok (.ireturn, 1) := by decide +kernel
theorem dX10_filled_0 : decode cX10_filled 0 = .ok (.iload_n 2, 1) := by decide +kernel
theorem dX10_filled_1 : decode cX10_filled 1 = .ok (.bipush 80, 2) := by decide +kernel
theorem dX10_filled_3 : decode cX10_filled 3 = .ok (.if_icmp .ge 12, 3) := by decide +kernel
theorem dX10_filled_6 : decode cX10_filled 6 = .ok (.aload_n 0, 1) := by decide +kernel
theorem dX10_filled_7 : decode cX10_filled 7 = .ok (.getfield 28, 3) := by decide +kernel
theorem dX10_filled_10 : decode cX10_filled 10 = .ok (.iload_n 1, 1) := by decide +kernel
theorem dX10_filled_11 : decode cX10_filled 11 = .ok (.iaload, 1) := by decide +kernel
theorem dX10_filled_12 : decode cX10_filled 12 = .ok (.goto 15, 3) := by decide +kernel
theorem dX10_filled_15 : decode cX10_filled 15 = .ok (.iconst 1, 1) := by decide +kernel
theorem dX10_filled_16 : decode cX10_filled 16 = .ok (.aload_n 0, 1) := by decide +kernel
theorem dX10_filled_17 : decode cX10_filled 17 = .ok (.getfield 28, 3) := by decide +kernel
theorem dX10_filled_20 : decode cX10_filled 20 = .ok (.iload_n 1, 1) := by decide +kernel
theorem dX10_filled_21 : decode cX10_filled 21 = .ok (.iaload, 1) := by decide +kernel
theorem dX10_filled_22 : decode cX10_filled 22 = .ok (.iconst 2, 1) := by decide +kernel
theorem dX10_filled_23 : decode cX10_filled 23 = .ok (.idiv, 1) := by decide +kernel
theorem dX10_filled_24 : decode cX10_filled 24 = .ok (.invokestatic 65, 3) := by decide +kernel
theorem dX10_filled_27 : decode cX10_filled 27 = .ok (.istore_n 3, 1) := by decide +kernel
theorem dX10_filled_28 : decode cX10_filled 28 = .ok (.bipush 100, 2) := by decide +kernel
theorem dX10_filled_30 : decode cX10_filled 30 = .ok (.iload_n 2, 1) := by decide +kernel
theorem dX10_filled_31 : decode cX10_filled 31 = .ok (.iload_n 3, 1) := by decide +kernel
theorem dX10_filled_32 : decode cX10_filled 32 = .ok (.iadd, 1) := by decide +kernel
theorem dX10_filled_33 : decode cX10_filled 33 = .ok (.invokestatic 71, 3) := by decide +kernel
theorem dX10_filled_36 : decode cX10_filled 36 = .ok (.ireturn, 1) := by decide +kernel
theorem dX10_drained_0 : decode cX10_drained 0 = .ok (.iconst 0, 1) := by decide +kernel
theorem dX10_drained_1 : decode cX10_drained 1 = .ok (.iload_n 2, 1) := by decide +kernel
theorem dX10_drained_2 : decode cX10_drained 2 = .ok (.aload_n 0, 1) := by decide +kernel
theorem dX10_drained_3 : decode cX10_drained 3 = .ok (.getfield 31, 3) := by decide +kernel
theorem dX10_drained_6 : decode cX10_drained 6 = .ok (.iload_n 1, 1) := by decide +kernel
theorem dX10_drained_7 : decode cX10_drained 7 = .ok (.iaload, 1) := by decide +kernel
theorem dX10_drained_8 : decode cX10_drained 8 = .ok (.isub, 1) := by decide +kernel
theorem dX10_drained_9 : decode cX10_drained 9 = .ok (.invokestatic 65, 3) := by decide +kernel
theorem dX10_drained_12 : decode cX10_drained 12 = .ok (.ireturn, 1) := by decide +kernel
theorem dX10_levelBehind_0 : decode cX10_levelBehind 0 = .ok (.aload_n 0, 1) := by decide +kernel
theorem dX10_levelBehind_1 : decode cX10_levelBehind 1 = .ok (.iload_n 1, 1) := by decide +kernel
theorem dX10_levelBehind_2 : decode cX10_levelBehind 2 = .ok (.iload_n 2, 1) := by decide +kernel
theorem dX10_levelBehind_3 : decode cX10_levelBehind 3 = .ok (.iload_n 3, 1) := by decide +kernel
theorem dX10_levelBehind_4 : decode cX10_levelBehind 4 = .ok (.invokevirtual 74, 3) := by decide +kernel
theorem dX10_levelBehind_7 : decode cX10_levelBehind 7 = .ok (.istore 5, 2) := by decide +kernel
theorem dX10_levelBehind_9 : decode cX10_levelBehind 9 = .ok (.iload 4, 2) := by decide +kernel
theorem dX10_levelBehind_11 : decode cX10_levelBehind 11 = .ok (.ifCond .eq 21, 3) := by decide +kernel
theorem dX10_levelBehind_14 : decode cX10_levelBehind 14 = .ok (.aload_n 0, 1) := by decide +kernel
theorem dX10_levelBehind_15 : decode cX10_levelBehind 15 = .ok (.iload_n 1, 1) := by decide +kernel
theorem dX10_levelBehind_16 : decode cX10_levelBehind 16 = .ok (.invokevirtual 78, 3) := by decide +kernel
theorem dX10_levelBehind_19 : decode cX10_levelBehind 19 = .ok (.ifCond .ne 13, 3) := by decide +kernel
theorem dX10_levelBehind_22 : decode cX10_levelBehind 22 = .ok (.aload_n 0, 1) := by decide +kernel
theorem dX10_levelBehind_23 : decode cX10_levelBehind 23 = .ok (.iload_n 2, 1) := by decide +kernel
theorem dX10_levelBehind_24 : decode cX10_levelBehind 24 = .ok (.iload 5, 2) := by decide +kernel
theorem dX10_levelBehind_26 : decode cX10_levelBehind 26 = .ok (.invokevirtual 82, 3) := by decide +kernel
theorem dX10_levelBehind_29 : decode cX10_levelBehind 29 = .ok (.goto 10, 3) := by decide +kernel
theorem dX10_levelBehind_32 : decode cX10_levelBehind 32 = .ok (.aload_n 0, 1) := by decide +kernel
theorem dX10_levelBehind_33 : decode cX10_levelBehind 33 = .ok (.iload_n 2, 1) := by decide +kernel
theorem dX10_levelBehind_34 : decode cX10_levelBehind 34 = .ok (.iload 5, 2) := by decide +kernel
theorem dX10_levelBehind_36 : decode cX10_levelBehind 36 = .ok (.invokevirtual 85, 3) := by decide +kernel
theorem dX10_levelBehind_39 : decode cX10_levelBehind 39 = .ok (.ireturn, 1) := by decide +kernel
theorem dJ6_bitCount_0f7a4_0 : decode cJ6_bitCount_0f7a4 0 = .ok (.iload_n 0, 1) := by decide +kernel
theorem dJ6_bitCount_0f7a4_1 : decode cJ6_bitCount_0f7a4 1 = .ok (.iload_n 0, 1) := by decide +kernel
theorem dJ6_bitCount_0f7a4_2 : decode cJ6_bitCount_0f7a4 2 = .ok (.iconst 1, 1) := by decide +kernel
theorem dJ6_bitCount_0f7a4_3 : decode cJ6_bitCount_0f7a4 3 = .ok (.iushr, 1) := by decide +kernel
theorem dJ6_bitCount_0f7a4_4 : decode cJ6_bitCount_0f7a4 4 = .ok (.ldc_w 265, 3) := by decide +kernel
theorem dJ6_bitCount_0f7a4_7 : decode cJ6_bitCount_0f7a4 7 = .ok (.iand, 1) := by decide +kernel
theorem dJ6_bitCount_0f7a4_8 : decode cJ6_bitCount_0f7a4 8 = .ok (.isub, 1) := by decide +kernel
theorem dJ6_bitCount_0f7a4_9 : decode cJ6_bitCount_0f7a4 9 = .ok (.istore_n 0, 1) := by decide +kernel
theorem dJ6_bitCount_0f7a4_10 : decode cJ6_bitCount_0f7a4 10 = .ok (.iload_n 0, 1) := by decide +kernel
theorem dJ6_bitCount_0f7a4_11 : decode cJ6_bitCount_0f7a4 11 = .ok (.ldc_w 266, 3) := by decide +kernel
theorem dJ6_bitCount_0f7a4_14 : decode cJ6_bitCount_0f7a4 14 = .ok (.iand, 1) := by decide +kernel
theorem dJ6_bitCount_0f7a4_15 : decode cJ6_bitCount_0f7a4 15 = .ok (.iload_n 0, 1) := by decide +kernel
theorem dJ6_bitCount_0f7a4_16 : decode cJ6_bitCount_0f7a4 16 = .ok (.iconst 2, 1) := by decide +kernel
theorem dJ6_bitCount_0f7a4_17 : decode cJ6_bitCount_0f7a4 17 = .ok (.iushr, 1) := by decide +kernel
theorem dJ6_bitCount_0f7a4_18 : decode cJ6_bitCount_0f7a4 18 = .ok (.ldc_w 266, 3) := by decide +kernel
theorem dJ6_bitCount_0f7a4_21 : decode cJ6_bitCount_0f7a4 21 = .ok (.iand, 1) := by decide +kernel
theorem dJ6_bitCount_0f7a4_22 : decode cJ6_bitCount_0f7a4 22 = .ok (.iadd, 1) := by decide +kernel
theorem dJ6_bitCount_0f7a4_23 : decode cJ6_bitCount_0f7a4 23 = .ok (.istore_n 0, 1) := by decide +kernel
theorem dJ6_bitCount_0f7a4_24 : decode cJ6_bitCount_0f7a4 24 = .ok (.iload_n 0, 1) := by decide +kernel
theorem dJ6_bitCount_0f7a4_25 : decode cJ6_bitCount_0f7a4 25 = .ok (.iload_n 0, 1) := by decide +kernel
theorem dJ6_bitCount_0f7a4_26 : decode cJ6_bitCount_0f7a4 26 = .ok (.iconst 4, 1) := by decide +kernel
theorem dJ6_bitCount_0f7a4_27 : decode cJ6_bitCount_0f7a4 27 = .ok (.iushr, 1) := by decide +kernel
theorem dJ6_bitCount_0f7a4_28 : decode cJ6_bitCount_0f7a4 28 = .ok (.iadd, 1) := by decide +kernel
theorem dJ6_bitCount_0f7a4_29 : decode cJ6_bitCount_0f7a4 29 = .ok (.ldc_w 267, 3) := by decide +kernel
theorem dJ6_bitCount_0f7a4_32 : decode cJ6_bitCount_0f7a4 32 = .ok (.iand, 1) := by decide +kernel
theorem dJ6_bitCount_0f7a4_33 : decode cJ6_bitCount_0f7a4 33 = .ok (.istore_n 0, 1) := by decide +kernel
theorem dJ6_bitCount_0f7a4_34 : decode cJ6_bitCount_0f7a4 34 = .ok (.iload_n 0, 1) := by decide +kernel
theorem dJ6_bitCount_0f7a4_35 : decode cJ6_bitCount_0f7a4 35 = .ok (.iload_n 0, 1) := by decide +kernel
theorem dJ6_bitCount_0f7a4_36 : decode cJ6_bitCount_0f7a4 36 = .ok (.bipush 8, 2) := by decide +kernel
theorem dJ6_bitCount_0f7a4_38 : decode cJ6_bitCount_0f7a4 38 = .ok (.iushr, 1) := by decide +kernel
theorem dJ6_bitCount_0f7a4_39 : decode cJ6_bitCount_0f7a4 39 = .ok (.iadd, 1) := by decide +kernel
theorem dJ6_bitCount_0f7a4_40 : decode cJ6_bitCount_0f7a4 40 = .ok (.istore_n 0, 1) := by decide +kernel
theorem dJ6_bitCount_0f7a4_41 : decode cJ6_bitCount_0f7a4 41 = .ok (.iload_n 0, 1) := by decide +kernel
theorem dJ6_bitCount_0f7a4_42 : decode cJ6_bitCount_0f7a4 42 = .ok (.iload_n 0, 1) := by decide +kernel
theorem dJ6_bitCount_0f7a4_43 : decode cJ6_bitCount_0f7a4 43 = .ok (.bipush 16, 2) := by decide +kernel
theorem dJ6_bitCount_0f7a4_45 : decode cJ6_bitCount_0f7a4 45 = .ok (.iushr, 1) := by decide +kernel
theorem dJ6_bitCount_0f7a4_46 : decode cJ6_bitCount_0f7a4 46 = .ok (.iadd, 1) := by decide +kernel
theorem dJ6_bitCount_0f7a4_47 : decode cJ6_bitCount_0f7a4 47 = .ok (.istore_n 0, 1) := by decide +kernel
theorem dJ6_bitCount_0f7a4_48 : decode cJ6_bitCount_0f7a4 48 = .ok (.iload_n 0, 1) := by decide +kernel
theorem dJ6_bitCount_0f7a4_49 : decode cJ6_bitCount_0f7a4 49 = .ok (.bipush 63, 2) := by decide +kernel
theorem dJ6_bitCount_0f7a4_51 : decode cJ6_bitCount_0f7a4 51 = .ok (.iand, 1) := by decide +kernel
theorem dJ6_bitCount_0f7a4_52 : decode cJ6_bitCount_0f7a4 52 = .ok (.ireturn, 1) := by decide +kernel
theorem dJ9_max_7cf53_0 : decode cJ9_max_7cf53 0 = .ok (.iload_n 0, 1) := by decide +kernel
theorem dJ9_max_7cf53_1 : decode cJ9_max_7cf53 1 = .ok (.iload_n 1, 1) := by decide +kernel
theorem dJ9_max_7cf53_2 : decode cJ9_max_7cf53 2 = .ok (.if_icmp .lt 7, 3) := by decide +kernel
theorem dJ9_max_7cf53_5 : decode cJ9_max_7cf53 5 = .ok (.iload_n 0, 1) := by decide +kernel
theorem dJ9_max_7cf53_6 : decode cJ9_max_7cf53 6 = .ok (.goto 4, 3) := by decide +kernel
theorem dJ9_max_7cf53_9 : decode cJ9_max_7cf53 9 = .ok (.iload_n 1, 1) := by decide +kernel
theorem dJ9_max_7cf53_10 : decode cJ9_max_7cf53 10 = .ok (.ireturn, 1) := by decide +kernel
theorem dJ9_min_7cf53_0 : decode cJ9_min_7cf53 0 = .ok (.iload_n 0, 1) := by decide +kernel
theorem dJ9_min_7cf53_1 : decode cJ9_min_7cf53 1 = .ok (.iload_n 1, 1) := by decide +kernel
theorem dJ9_min_7cf53_2 : decode cJ9_min_7cf53 2 = .ok (.if_icmp .gt 7, 3) := by decide +kernel
theorem dJ9_min_7cf53_5 : decode cJ9_min_7cf53 5 = .ok (.iload_n 0, 1) := by decide +kernel
theorem dJ9_min_7cf53_6 : decode cJ9_min_7cf53 6 = .ok (.goto 4, 3) := by decide +kernel
theorem dJ9_min_7cf53_9 : decode cJ9_min_7cf53 9 = .ok (.iload_n 1, 1) := by decide +kernel
theorem dJ9_min_7cf53_10 : decode cJ9_min_7cf53 10 = .ok (.ireturn, 1) := by decide +kernel
end
section
theorem dX11_init_0 : decode cX11_init 0 = .ok (.aload_n 0, 1) := by decide +kernel
theorem dX11_init_1 : decode cX11_init 1 = .ok (.invokespecial 1, 3) := by decide +kernel
theorem dX11_init_4 : decode cX11_init 4 = .ok (.aload_n 0, 1) := by decide +kernel
theorem dX11_init_5 : decode cX11_init 5 = .ok (.new 7, 3) := by decide +kernel
theorem dX11_init_8 : decode cX11_init 8 = .ok (.dup, 1) := by decide +kernel
theorem dX11_init_9 : decode cX11_init 9 = .ok (.invokespecial 9, 3) := by decide +kernel
theorem dX11_init_12 : decode cX11_init 12 = .ok (.putfield 10, 3) := by decide +kernel
theorem dX11_init_15 : decode cX11_init 15 = .ok (.aload_n 0, 1) := by decide +kernel
theorem dX11_init_16 : decode cX11_init 16 = .ok (.new 7, 3) := by decide +kernel
theorem dX11_init_19 : decode cX11_init 19 = .ok (.dup, 1) := by decide +kernel
theorem dX11_init_20 : decode cX11_init 20 = .ok (.invokespecial 9, 3) := by decide +kernel
theorem dX11_init_23 : decode cX11_init 23 = .ok (.putfield 16, 3) := by decide +kernel
theorem dX11_init_26 : decode cX11_init 26 = .ok (.aload_n 0, 1) := by decide +kernel
theorem dX11_init_27 : decode cX11_init 27 = .ok (.new 19, 3) := by decide +kernel
theorem dX11_init_30 : decode cX11_init 30 = .ok (.dup, 1) := by decide +kernel
theorem dX11_init_31 : decode cX11_init 31 = .ok (.invokespecial 21, 3) := by decide +kernel
theorem dX11_init_34 : decode cX11_init 34 = .ok (.putfield 22, 3) := by decide +kernel
theorem dX11_init_37 : decode cX11_init 37 = .ok (.aload_n 0, 1) := by decide +kernel
theorem dX11_init_38 : decode cX11_init 38 = .ok (.new 26, 3) := by decide +kernel
theorem dX11_init_41 : decode cX11_init 41 = .ok (.dup, 1) := by decide +kernel
theorem dX11_init_42 : decode cX11_init 42 = .ok (.invokespecial 28, 3) := by decide +kernel
theorem dX11_init_45 : decode cX11_init 45 = .ok (.putfield 29, 3) := by decide +kernel
theorem dX11_init_48 : decode cX11_init 48 = .ok (.aload_n 0, 1) := by decide +kernel
theorem dX11_init_49 : decode cX11_init 49 = .ok (.new 33, 3) := by decide +kernel
theorem dX11_init_52 : decode cX11_init 52 = .ok (.dup, 1) := by decide +kernel
theorem dX11_init_53 : decode cX11_init 53 = .ok (.invokespecial 35, 3) := by decide +kernel
theorem dX11_init_56 : decode cX11_init 56 = .ok (.putfield 36, 3) := by decide +kernel
theorem dX11_init_59 : decode cX11_init 59 = .ok (.aload_n 0, 1) := by decide +kernel
theorem dX11_init_60 : decode cX11_init 60 = .ok (.new 40, 3) := by decide +kernel
theorem dX11_init_63 : decode cX11_init 63 = .ok (.dup, 1) := by decide +kernel
theorem dX11_init_64 : decode cX11_init 64 = .ok (.invokespecial 42, 3) := by decide +kernel
theorem dX11_init_67 : decode cX11_init 67 = .ok (.putfield 43, 3) := by decide +kernel
theorem dX11_init_70 : decode cX11_init 70 = .ok (.aload_n 0, 1) := by decide +kernel
theorem dX11_init_71 : decode cX11_init 71 = .ok (.bipush 6, 2) := by decide +kernel
theorem dX11_init_73 : decode cX11_init 73 = .ok (.anewarray 47, 3) := by decide +kernel
theorem dX11_init_76 : decode cX11_init 76 = .ok (.putfield 49, 3) := by decide +kernel
theorem dX11_init_79 : decode cX11_init 79 = .ok (.aload_n 0, 1) := by decide +kernel
theorem dX11_init_80 : decode cX11_init 80 = .ok (.iconst 2, 1) := by decide +kernel
theorem dX11_init_81 : decode cX11_init 81 = .ok (.bipush 14, 2) := by decide +kernel
theorem dX11_init_83 : decode cX11_init 83 = .ok (.multianewarray 53 2, 4) := by decide +kernel
theorem dX11_init_87 : decode cX11_init 87 = .ok (.putfield 55, 3) := by decide +kernel
theorem dX11_init_90 : decode cX11_init 90 = .ok (.aload_n 0, 1) := by decide +kernel
theorem dX11_init_91 : decode cX11_init 91 = .ok (.iconst 2, 1) := by decide +kernel
theorem dX11_init_92 : decode cX11_init 92 = .ok (.newarray .boolean, 2) := by decide +kernel
theorem dX11_init_94 : decode cX11_init 94 = .ok (.putfield 58, 3) := by decide +kernel
theorem dX11_init_97 : decode cX11_init 97 = .ok (.aload_n 0, 1) := by decide +kernel
theorem dX11_init_98 : decode cX11_init 98 = .ok (.bipush 6, 2) := by decide +kernel
theorem dX11_init_100 : decode cX11_init 100 = .ok (.newarray .int, 2) := by decide +kernel
theorem dX11_init_102 : decode cX11_init 102 = .ok (.putfield 62, 3) := by decide +kernel
theorem dX11_init_105 : decode cX11_init 105 = .ok (.aload_n 0, 1) := by decide +kernel
theorem dX11_init_106 : decode cX11_init 106 = .ok (.bipush 6, 2) := by decide +kernel
theorem dX11_init_108 : decode cX11_init 108 = .ok (.newarray .int, 2) := by decide +kernel
theorem dX11_init_110 : decode cX11_init 110 = .ok (.putfield 66, 3) := by decide +kernel
theorem dX11_init_113 : decode cX11_init 113 = .ok (.aload_n 0, 1) := by decide +kernel
theorem dX11_init_114 : decode cX11_init 114 = .ok (.bipush 6, 2) := by decide +kernel
theorem dX11_init_116 : decode cX11_init 116 = .ok (.newarray .int, 2) := by decide +kernel
theorem dX11_init_118 : decode cX11_init 118 = .ok (.putfield 69, 3) := by decide +kernel
theorem dX11_init_121 : decode cX11_init 121 = .ok (.aload_n 0, 1) := by decide +kernel
theorem dX11_init_122 : decode cX11_init 122 = .ok (.bipush 6, 2) := by decide +kernel
theorem dX11_init_124 : decode cX11_init 124 = .ok (.newarray .int, 2) := by decide +kernel
theorem dX11_init_126 : decode cX11_init 126 = .ok (.putfield 72, 3) := by decide +kernel
theorem dX11_init_129 : decode cX11_init 129 = .ok (.aload_n 0, 1) := by decide +kernel
theorem dX11_init_130 : decode cX11_init 130 = .ok (.iconst 0, 1) := by decide +kernel
theorem dX11_init_131 : decode cX11_init 131 = .ok (.putfield 75, 3) := by decide +kernel
theorem dX11_init_134 : decode cX11_init 134 = .ok (.aload_n 0, 1) := by decide +kernel
theorem dX11_init_135 : decode cX11_init 135 = .ok (.lconst 0, 1) := by decide +kernel
theorem dX11_init_136 : decode cX11_init 136 = .ok (.putfield 79, 3) := by decide +kernel
theorem dX11_init_139 : decode cX11_init 139 = .ok (.aload_n 0, 1) := by decide +kernel
theorem dX11_init_140 : decode cX11_init 140 = .ok (.getfield 49, 3) := by decide +kernel
theorem dX11_init_143 : decode cX11_init 143 = .ok (.iconst 0, 1) := by decide +kernel
theorem dX11_init_144 : decode cX11_init 144 = .ok (.new 47, 3) := by decide +kernel
theorem dX11_init_147 : decode cX11_init 147 = .ok (.dup, 1) := by decide +kernel
theorem dX11_init_148 : decode cX11_init 148 = .ok (.invokespecial 83, 3) := by decide +kernel
theorem dX11_init_151 : decode cX11_init 151 = .ok (.aastore, 1) := by decide +kernel
theorem dX11_init_152 : decode cX11_init 152 = .ok (.aload_n 0, 1) := by decide +kernel
theorem dX11_init_153 : decode cX11_init 153 = .ok (.getfield 49, 3) := by decide +kernel
theorem dX11_init_156 : decode cX11_init 156 = .ok (.iconst 1, 1) := by decide +kernel
theorem dX11_init_157 : decode cX11_init 157 = .ok (.new 84, 3) := by decide +kernel
theorem dX11_init_160 : decode cX11_init 160 = .ok (.dup, 1) := by decide +kernel
theorem dX11_init_161 : decode cX11_init 161 = .ok (.invokespecial 86, 3) := by decide +kernel
theorem dX11_init_164 : decode cX11_init 164 = .ok (.aastore, 1) := by decide +kernel
theorem dX11_init_165 : decode cX11_init 165 = .ok (.aload_n 0, 1) := by decide +kernel
theorem dX11_init_166 : decode cX11_init 166 = .ok (.getfield 49, 3) := by decide +kernel
theorem dX11_init_169 : decode cX11_init 169 = .ok (.iconst 2, 1) := by decide +kernel
theorem dX11_init_170 : decode cX11_init 170 = .ok (.new 87, 3) := by decide +kernel
theorem dX11_init_173 : decode cX11_init 173 = .ok (.dup, 1) := by decide +kernel
theorem dX11_init_174 : decode cX11_init 174 = .ok (.invokespecial 89, 3) := by decide +kernel
theorem dX11_init_177 : decode cX11_init 177 = .ok (.aastore, 1) := by decide +kernel
theorem dX11_init_178 : decode cX11_init 178 = .ok (.aload_n 0, 1) := by decide +kernel
theorem dX11_init_179 : decode cX11_init 179 = .ok (.getfield 49, 3) := by decide +kernel
theorem dX11_init_182 : decode cX11_init 182 = .ok (.iconst 3, 1) := by decide +kernel
theorem dX11_init_183 : decode cX11_init 183 = .ok (.new 90, 3) := by decide +kernel
theorem dX11_init_186 : decode cX11_init 186 = .ok (.dup, 1) := by decide +kernel
theorem dX11_init_187 : decode cX11_init 187 = .ok (.invokespecial 92, 3) := by decide +kernel
theorem dX11_init_190 : decode cX11_init 190 = .ok (.aastore, 1) := by decide +kernel
theorem dX11_init_191 : decode cX11_init 191 = .ok (.aload_n 0, 1) := by decide +kernel
theorem dX11_init_192 : decode cX11_init 192 = .ok (.getfield 49, 3) := by decide +kernel
theorem dX11_init_195 : decode cX11_init 195 = .ok (.iconst 4, 1) := by decide +kernel
theorem dX11_init_196 : decode cX11_init 196 = .ok (.new 93, 3) := by decide +kernel
theorem dX11_init_199 : decode cX11_init 199 = .ok (.dup, 1) := by decide +kernel
theorem dX11_init_200 : decode cX11_init 200 = .ok (.invokespecial 95, 3) := by decide +kernel
theorem dX11_init_203 : decode cX11_init 203 = .ok (.aastore, 1) := by decide +kernel
theorem dX11_init_204 : decode cX11_init 204 = .ok (.aload_n 0, 1) := by decide +kernel
theorem dX11_init_205 : decode cX11_init 205 = .ok (.getfield 49, 3) := by decide +kernel
theorem dX11_init_208 : decode cX11_init 208 = .ok (.iconst 5, 1) := by decide +kernel
theorem dX11_init_209 : decode cX11_init 209 = .ok (.new 96, 3) := by decide +kernel
theorem dX11_init_212 : decode cX11_init 212 = .ok (.dup, 1) := by decide +kernel
theorem dX11_init_213 : decode cX11_init 213 = .ok (.invokespecial 98, 3) := by decide +kernel
theorem dX11_init_216 : decode cX11_init 216 = .ok (.aastore, 1) := by decide +kernel
theorem dX11_init_217 : decode cX11_init 217 = .ok (.return_, 1) := by decide +kernel
theorem dX11_type_0 : decode cX11_type 0 = .ok (.iload_n 1, 1) := by decide +kernel
theorem dX11_type_1 : decode cX11_type 1 = .ok (.ifCond .lt 10, 3) := by decide +kernel
theorem dX11_type_4 : decode cX11_type 4 = .ok (.iload_n 1, 1) := by decide +kernel
theorem dX11_type_5 : decode cX11_type 5 = .ok (.sipush 255, 3) := by decide +kernel
theorem dX11_type_8 : decode cX11_type 8 = .ok (.if_icmp .le 5, 3) := by decide +kernel
theorem dX11_type_11 : decode cX11_type 11 = .ok (.iconst (-1), 1) := by decide +kernel
theorem dX11_type_12 : decode cX11_type 12 = .ok (.ireturn, 1) := by decide +kernel
theorem dX11_type_13 : decode cX11_type 13 = .ok (.aload_n 0, 1) := by decide +kernel
theorem dX11_type_14 : decode cX11_type 14 = .ok (.getfield 22, 3) := by decide +kernel
theorem dX11_type_17 : decode cX11_type 17 = .ok (.iload_n 1, 1) := by decide +kernel
theorem dX11_type_18 : decode cX11_type 18 = .ok (.invokevirtual 99, 3) := by decide +kernel
theorem dX11_type_21 : decode cX11_type 21 = .ok (.ifCond .eq 13, 3) := by decide +kernel
theorem dX11_type_24 : decode cX11_type 24 = .ok (.aload_n 0, 1) := by decide +kernel
theorem dX11_type_25 : decode cX11_type 25 = .ok (.getfield 22, 3) := by decide +kernel
theorem dX11_type_28 : decode cX11_type 28 = .ok (.getfield 103, 3) := by decide +kernel
theorem dX11_type_31 : decode cX11_type 31 = .ok (.goto 5, 3) := by decide +kernel
theorem dX11_type_34 : decode cX11_type 34 = .ok (.bipush (-3), 2) := by decide +kernel
theorem dX11_type_36 : decode cX11_type 36 = .ok (.ireturn, 1) := by decide +kernel
theorem dX11_clear_0 : decode cX11_clear 0 = .ok (.aload_n 0, 1) := by decide +kernel
theorem dX11_clear_1 : decode cX11_clear 1 = .ok (.getfield 22, 3) := by decide +kernel
theorem dX11_clear_4 : decode cX11_clear 4 = .ok (.getfield 103, 3) := by decide +kernel
theorem dX11_clear_7 : decode cX11_clear 7 = .ok (.istore_n 1, 1) := by decide +kernel
theorem dX11_clear_8 : decode cX11_clear 8 = .ok (.aload_n 0, 1) := by decide +kernel
theorem dX11_clear_9 : decode cX11_clear 9 = .ok (.getfield 22, 3) := by decide +kernel
theorem dX11_clear_12 : decode cX11_clear 12 = .ok (.iconst 0, 1) := by decide +kernel
theorem dX11_clear_13 : decode cX11_clear 13 = .ok (.putfield 103, 3) := by decide +kernel
theorem dX11_clear_16 : decode cX11_clear 16 = .ok (.iload_n 1, 1) := by decide +kernel
theorem dX11_clear_17 : decode cX11_clear 17 = .ok (.ireturn, 1) := by decide +kernel
theorem dX11_room_0 : decode cX11_room 0 = .ok (.aload_n 0, 1) := by decide +kernel
theorem dX11_room_1 : decode cX11_room 1 = .ok (.getfield 22, 3) := by decide +kernel
theorem dX11_room_4 : decode cX11_room 4 = .ok (.aload_n 0, 1) := by decide +kernel
theorem dX11_room_5 : decode cX11_room 5 = .ok (.getfield 16, 3) := by decide +kernel
theorem dX11_room_8 : decode cX11_room 8 = .ok (.invokevirtual 106, 3) := by decide +kernel
theorem dX11_room_11 : decode cX11_room 11 = .ok (.istore_n 1, 1) := by decide +kernel
theorem dX11_room_12 : decode cX11_room 12 = .ok (.iload_n 1, 1) := by decide +kernel
theorem dX11_room_13 : decode cX11_room 13 = .ok (.ifCond .ge 14, 3) := by decide +kernel
theorem dX11_room_16 : decode cX11_room 16 = .ok (.bipush (-10), 2) := by decide +kernel
theorem dX11_room_18 : decode cX11_room 18 = .ok (.aload_n 0, 1) := by decide +kernel
theorem dX11_room_19 : decode cX11_room 19 = .ok (.getfield 22, 3) := by decide +kernel
theorem dX11_room_22 : decode cX11_room 22 = .ok (.getfield 110, 3) := by decide +kernel
theorem dX11_room_25 : decode cX11_room 25 = .ok (.isub, 1) := by decide +kernel
theorem dX11_room_26 : decode cX11_room 26 = .ok (.ireturn, 1) := by decide +kernel
theorem dX11_room_27 : decode cX11_room 27 = .ok (.aload_n 0, 1) := by decide +kernel
theorem dX11_room_28 : decode cX11_room 28 = .ok (.getfield 10, 3) := by decide +kernel
theorem dX11_room_31 : decode cX11_room 31 = .ok (.aload_n 0, 1) := by decide +kernel
theorem dX11_room_32 : decode cX11_room 32 = .ok (.getfield 16, 3) := by decide +kernel
theorem dX11_room_35 : decode cX11_room 35 = .ok (.invokevirtual 113, 3) := by decide +kernel
theorem dX11_room_38 : decode cX11_room 38 = .ok (.aload_n 0, 1) := by decide +kernel
theorem dX11_room_39 : decode cX11_room 39 = .ok (.getfield 29, 3) := by decide +kernel
theorem dX11_room_42 : decode cX11_room 42 = .ok (.aload_n 0, 1) := by decide +kernel
theorem dX11_room_43 : decode cX11_room 43 = .ok (.getfield 10, 3) := by decide +kernel
theorem dX11_room_46 : decode cX11_room 46 = .ok (.invokevirtual 117, 3) := by decide +kernel
theorem dX11_room_49 : decode cX11_room 49 = .ok (.aload_n 0, 1) := by decide +kernel
theorem dX11_room_50 : decode cX11_room 50 = .ok (.getfield 36, 3) := by decide +kernel
theorem dX11_room_53 : decode cX11_room 53 = .ok (.iconst 0, 1) := by decide +kernel
theorem dX11_room_54 : decode cX11_room 54 = .ok (.putfield 120, 3) := by decide +kernel
theorem dX11_room_57 : decode cX11_room 57 = .ok (.aload_n 0, 1) := by decide +kernel
theorem dX11_room_58 : decode cX11_room 58 = .ok (.iconst 0, 1) := by decide +kernel
theorem dX11_room_59 : decode cX11_room 59 = .ok (.putfield 75, 3) := by decide +kernel
theorem dX11_room_62 : decode cX11_room 62 = .ok (.iconst 0, 1) := by decide +kernel
theorem dX11_room_63 : decode cX11_room 63 = .ok (.istore_n 2, 1) := by decide +kernel
theorem dX11_room_64 : decode cX11_room 64 = .ok (.iload_n 2, 1) := by decide +kernel
theorem dX11_room_65 : decode cX11_room 65 = .ok (.iconst 2, 1) := by decide +kernel
theorem dX11_room_66 : decode cX11_room 66 = .ok (.if_icmp .ge 16, 3) := by decide +kernel
theorem dX11_room_69 : decode cX11_room 69 = .ok (.aload_n 0, 1) := by decide +kernel
theorem dX11_room_70 : decode cX11_room 70 = .ok (.getfield 58, 3) := by decide +kernel
theorem dX11_room_73 : decode cX11_room 73 = .ok (.iload_n 2, 1) := by decide +kernel
theorem dX11_room_74 : decode cX11_room 74 = .ok (.iconst 0, 1) := by decide +kernel
theorem dX11_room_75 : decode cX11_room 75 = .ok (.bastore, 1) := by decide +kernel
theorem dX11_room_76 : decode cX11_room 76 = .ok (.iinc 2 1, 3) := by decide +kernel
theorem dX11_room_79 : decode cX11_room 79 = .ok (.goto (-15), 3) := by decide +kernel
theorem dX11_room_82 : decode cX11_room 82 = .ok (.aload_n 0, 1) := by decide +kernel
theorem dX11_room_83 : decode cX11_room 83 = .ok (.getfield 22, 3) := by decide +kernel
theorem dX11_room_86 : decode cX11_room 86 = .ok (.iconst 0, 1) := by decide +kernel
theorem dX11_room_87 : decode cX11_room 87 = .ok (.putfield 103, 3) := by decide +kernel
theorem dX11_room_90 : decode cX11_room 90 = .ok (.iload_n 1, 1) := by decide +kernel
theorem dX11_room_91 : decode cX11_room 91 = .ok (.ireturn, 1) := by decide +kernel
theorem dX11_phone_0 : decode cX11_phone 0 = .ok (.aload_n 0, 1) := by decide +kernel
theorem dX11_phone_1 : decode cX11_phone 1 = .ok (.iload_n 1, 1) := by decide +kernel
theorem dX11_phone_2 : decode cX11_phone 2 = .ok (.invokevirtual 123, 3) := by decide +kernel
theorem dX11_phone_5 : decode cX11_phone 5 = .ok (.ifCond .ne 5, 3) := by decide +kernel
theorem dX11_phone_8 : decode cX11_phone 8 = .ok (.iconst (-1), 1) := by decide +kernel
theorem dX11_phone_9 : decode cX11_phone 9 = .ok (.ireturn, 1) := by decide +kernel
theorem dX11_phone_10 : decode cX11_phone 10 = .ok (.iload_n 2, 1) := by decide +kernel
theorem dX11_phone_11 : decode cX11_phone 11 = .ok (.tableswitch 90 0 4 #[33, 43, 53, 63, 73], 33) := by decide +kernel
theorem dX11_phone_44 : decode cX11_phone 44 = .ok (.aload_n 0, 1) := by decide +kernel
theorem dX11_phone_45 : decode cX11_phone 45 = .ok (.getfield 29, 3) := by decide +kernel
theorem dX11_phone_48 : decode cX11_phone 48 = .ok (.getfield 126, 3) := by decide +kernel
theorem dX11_phone_51 : decode cX11_phone 51 = .ok (.iload_n 1, 1) := by decide +kernel
theorem dX11_phone_52 : decode cX11_phone 52 = .ok (.iaload, 1) := by decide +kernel
theorem dX11_phone_53 : decode cX11_phone 53 = .ok (.ireturn, 1) := by decide +kernel
theorem dX11_phone_54 : decode cX11_phone 54 = .ok (.aload_n 0, 1) := by decide +kernel
theorem dX11_phone_55 : decode cX11_phone 55 = .ok (.getfield 10, 3) := by decide +kernel
theorem dX11_phone_58 : decode cX11_phone 58 = .ok (.getfield 129, 3) := by decide +kernel
theorem dX11_phone_61 : decode cX11_phone 61 = .ok (.iload_n 1, 1) := by decide +kernel
theorem dX11_phone_62 : decode cX11_phone 62 = .ok (.iaload, 1) := by decide +kernel
theorem dX11_phone_63 : decode cX11_phone 63 = .ok (.ireturn, 1) := by decide +kernel
theorem dX11_phone_64 : decode cX11_phone 64 = .ok (.aload_n 0, 1) := by decide +kernel
theorem dX11_phone_65 : decode cX11_phone 65 = .ok (.getfield 10, 3) := by decide +kernel
theorem dX11_phone_68 : decode cX11_phone 68 = .ok (.getfield 132, 3) := by decide +kernel
theorem dX11_phone_71 : decode cX11_phone 71 = .ok (.iload_n 1, 1) := by decide +kernel
theorem dX11_phone_72 : decode cX11_phone 72 = .ok (.iaload, 1) := by decide +kernel
theorem dX11_phone_73 : decode cX11_phone 73 = .ok (.ireturn, 1) := by decide +kernel
theorem dX11_phone_74 : decode cX11_phone 74 = .ok (.aload_n 0, 1) := by decide +kernel
theorem dX11_phone_75 : decode cX11_phone 75 = .ok (.getfield 29, 3) := by decide +kernel
theorem dX11_phone_78 : decode cX11_phone 78 = .ok (.getfield 135, 3) := by decide +kernel
theorem dX11_phone_81 : decode cX11_phone 81 = .ok (.iload_n 1, 1) := by decide +kernel
theorem dX11_phone_82 : decode cX11_phone 82 = .ok (.iaload, 1) := by decide +kernel
theorem dX11_phone_83 : decode cX11_phone 83 = .ok (.ireturn, 1) := by decide +kernel
theorem dX11_phone_84 : decode cX11_phone 84 = .ok (.aload_n 0, 1) := by decide +kernel
theorem dX11_phone_85 : decode cX11_phone 85 = .ok (.getfield 29, 3) := by decide +kernel
theorem dX11_phone_88 : decode cX11_phone 88 = .ok (.iload_n 1, 1) := by decide +kernel
theorem dX11_phone_89 : decode cX11_phone 89 = .ok (.invokevirtual 138, 3) := by decide +kernel
theorem dX11_phone_92 : decode cX11_phone 92 = .ok (.ifCond .eq 7, 3) := by decide +kernel
theorem dX11_phone_95 : decode cX11_phone 95 = .ok (.iconst 1, 1) := by decide +kernel
theorem dX11_phone_96 : decode cX11_phone 96 = .ok (.goto 4, 3) := by decide +kernel
theorem dX11_phone_99 : decode cX11_phone 99 = .ok (.iconst 0, 1) := by decide +kernel
theorem dX11_phone_100 : decode cX11_phone 100 = .ok (.ireturn, 1) := by decide +kernel
theorem dX11_phone_101 : decode cX11_phone 101 = .ok (.iconst (-1), 1) := by decide +kernel
theorem dX11_phone_102 : decode cX11_phone 102 = .ok (.ireturn, 1) := by decide +kernel
theorem dX11_call_0 : decode cX11_call 0 = .ok (.iload_n 1, 1) := by decide +kernel
theorem dX11_call_1 : decode cX11_call 1 = .ok (.iconst 0, 1) := by decide +kernel
theorem dX11_call_2 : decode cX11_call 2 = .ok (.aload_n 0, 1) := by decide +kernel
theorem dX11_call_3 : decode cX11_call 3 = .ok (.getfield 10, 3) := by decide +kernel
theorem dX11_call_6 : decode cX11_call 6 = .ok (.getfield 141, 3) := by decide +kernel
theorem dX11_call_9 : decode cX11_call 9 = .ok (.iconst 1, 1) := by decide +kernel
theorem dX11_call_10 : decode cX11_call 10 = .ok (.isub, 1) := by decide +kernel
theorem dX11_call_11 : decode cX11_call 11 = .ok (.invokestatic 144, 3) := by decide +kernel
theorem dX11_call_14 : decode cX11_call 14 = .ok (.ifCond .ne 5, 3) := by decide +kernel
theorem dX11_call_17 : decode cX11_call 17 = .ok (.iconst (-1), 1) := by decide +kernel
theorem dX11_call_18 : decode cX11_call 18 = .ok (.ireturn, 1) := by decide +kernel
theorem dX11_call_19 : decode cX11_call 19 = .ok (.iload_n 2, 1) := by decide +kernel
theorem dX11_call_20 : decode cX11_call 20 = .ok (.tableswitch 58 0 2 #[28, 38, 48], 28) := by decide +kernel
theorem dX11_call_48 : decode cX11_call 48 = .ok (.aload_n 0, 1) := by decide +kernel
theorem dX11_call_49 : decode cX11_call 49 = .ok (.getfield 10, 3) := by decide +kernel
theorem dX11_call_52 : decode cX11_call 52 = .ok (.getfield 148, 3) := by decide +kernel
theorem dX11_call_55 : decode cX11_call 55 = .ok (.iload_n 1, 1) := by decide +kernel
theorem dX11_call_56 : decode cX11_call 56 = .ok (.iaload, 1) := by decide +kernel
theorem dX11_call_57 : decode cX11_call 57 = .ok (.ireturn, 1) := by decide +kernel
theorem dX11_call_58 : decode cX11_call 58 = .ok (.aload_n 0, 1) := by decide +kernel
theorem dX11_call_59 : decode cX11_call 59 = .ok (.getfield 10, 3) := by decide +kernel
theorem dX11_call_62 : decode cX11_call 62 = .ok (.getfield 151, 3) := by decide +kernel
theorem dX11_call_65 : decode cX11_call 65 = .ok (.iload_n 1, 1) := by decide +kernel
theorem dX11_call_66 : decode cX11_call 66 = .ok (.iaload, 1) := by decide +kernel
theorem dX11_call_67 : decode cX11_call 67 = .ok (.ireturn, 1) := by decide +kernel
theorem dX11_call_68 : decode cX11_call 68 = .ok (.aload_n 0, 1) := by decide +kernel
theorem dX11_call_69 : decode cX11_call 69 = .ok (.getfield 10, 3) := by decide +kernel
theorem dX11_call_72 : decode cX11_call 72 = .ok (.getfield 154, 3) := by decide +kernel
theorem dX11_call_75 : decode cX11_call 75 = .ok (.iload_n 1, 1) := by decide +kernel
theorem dX11_call_76 : decode cX11_call 76 = .ok (.iaload, 1) := by decide +kernel
theorem dX11_call_77 : decode cX11_call 77 = .ok (.ireturn, 1) := by decide +kernel
theorem dX11_call_78 : decode cX11_call 78 = .ok (.iconst (-1), 1) := by decide +kernel
theorem dX11_call_79 : decode cX11_call 79 = .ok (.ireturn, 1) := by decide +kernel
theorem dX11_dark_0 : decode cX11_dark 0 = .ok (.iload_n 1, 1) := by decide +kernel
theorem dX11_dark_1 : decode cX11_dark 1 = .ok (.iconst 0, 1) := by decide +kernel
theorem dX11_dark_2 : decode cX11_dark 2 = .ok (.sipush 160, 3) := by decide +kernel
theorem dX11_dark_5 : decode cX11_dark 5 = .ok (.invokestatic 144, 3) := by decide +kernel
theorem dX11_dark_8 : decode cX11_dark 8 = .ok (.ifCond .ne 5, 3) := by decide +kernel
theorem dX11_dark_11 : decode cX11_dark 11 = .ok (.iconst (-1), 1) := by decide +kernel
theorem dX11_dark_12 : decode cX11_dark 12 = .ok (.ireturn, 1) := by decide +kernel
theorem dX11_dark_13 : decode cX11_dark 13 = .ok (.aload_n 0, 1) := by decide +kernel
theorem dX11_dark_14 : decode cX11_dark 14 = .ok (.getfield 10, 3) := by decide +kernel
theorem dX11_dark_17 : decode cX11_dark 17 = .ok (.iload_n 1, 1) := by decide +kernel
theorem dX11_dark_18 : decode cX11_dark 18 = .ok (.invokevirtual 157, 3) := by decide +kernel
theorem dX11_dark_21 : decode cX11_dark 21 = .ok (.ifCond .eq 7, 3) := by decide +kernel
theorem dX11_dark_24 : decode cX11_dark 24 = .ok (.iconst 1, 1) := by decide +kernel
theorem dX11_dark_25 : decode cX11_dark 25 = .ok (.goto 4, 3) := by decide +kernel
theorem dX11_dark_28 : decode cX11_dark 28 = .ok (.iconst 0, 1) := by decide +kernel
theorem dX11_dark_29 : decode cX11_dark 29 = .ok (.ireturn, 1) := by decide +kernel
theorem dX11_puts_0 : decode cX11_puts 0 = .ok (.aload_n 0, 1) := by decide +kernel
theorem dX11_puts_1 : decode cX11_puts 1 = .ok (.getfield 10, 3) := by decide +kernel
theorem dX11_puts_4 : decode cX11_puts 4 = .ok (.iload_n 1, 1) := by decide +kernel
theorem dX11_puts_5 : decode cX11_puts 5 = .ok (.invokevirtual 160, 3) := by decide +kernel
theorem dX11_puts_8 : decode cX11_puts 8 = .ok (.ifCond .ne 5, 3) := by decide +kernel
theorem dX11_puts_11 : decode cX11_puts 11 = .ok (.iconst (-1), 1) := by decide +kernel
theorem dX11_puts_12 : decode cX11_puts 12 = .ok (.ireturn, 1) := by decide +kernel
theorem dX11_puts_13 : decode cX11_puts 13 = .ok (.aload_n 0, 1) := by decide +kernel
theorem dX11_puts_14 : decode cX11_puts 14 = .ok (.getfield 36, 3) := by decide +kernel
theorem dX11_puts_17 : decode cX11_puts 17 = .ok (.aload_n 0, 1) := by decide +kernel
theorem dX11_puts_18 : decode cX11_puts 18 = .ok (.getfield 29, 3) := by decide +kernel
theorem dX11_puts_21 : decode cX11_puts 21 = .ok (.invokevirtual 163, 3) := by decide +kernel
theorem dX11_puts_24 : decode cX11_puts 24 = .ok (.iload_n 1, 1) := by decide +kernel
theorem dX11_puts_25 : decode cX11_puts 25 = .ok (.aload_n 0, 1) := by decide +kernel
theorem dX11_puts_26 : decode cX11_puts 26 = .ok (.getfield 29, 3) := by decide +kernel
theorem dX11_puts_29 : decode cX11_puts 29 = .ok (.getfield 167, 3) := by decide +kernel
theorem dX11_puts_32 : decode cX11_puts 32 = .ok (.if_icmp .eq 24, 3) := by decide +kernel
theorem dX11_puts_35 : decode cX11_puts 35 = .ok (.aload_n 0, 1) := by decide +kernel
theorem dX11_puts_36 : decode cX11_puts 36 = .ok (.getfield 29, 3) := by decide +kernel
theorem dX11_puts_39 : decode cX11_puts 39 = .ok (.iload_n 1, 1) := by decide +kernel
theorem dX11_puts_40 : decode cX11_puts 40 = .ok (.putfield 167, 3) := by decide +kernel
theorem dX11_puts_43 : decode cX11_puts 43 = .ok (.aload_n 0, 1) := by decide +kernel
theorem dX11_puts_44 : decode cX11_puts 44 = .ok (.getfield 29, 3) := by decide +kernel
theorem dX11_puts_47 : decode cX11_puts 47 = .ok (.dup, 1) := by decide +kernel
theorem dX11_puts_48 : decode cX11_puts 48 = .ok (.getfield 170, 3) := by decide +kernel
theorem dX11_puts_51 : decode cX11_puts 51 = .ok (.iconst 1, 1) := by decide +kernel
theorem dX11_puts_52 : decode cX11_puts 52 = .ok (.iadd, 1) := by decide +kernel
theorem dX11_puts_53 : decode cX11_puts 53 = .ok (.putfield 170, 3) := by decide +kernel
theorem dX11_puts_56 : decode cX11_puts 56 = .ok (.aload_n 0, 1) := by decide +kernel
theorem dX11_puts_57 : decode cX11_puts 57 = .ok (.getfield 29, 3) := by decide +kernel
theorem dX11_puts_60 : decode cX11_puts 60 = .ok (.getfield 170, 3) := by decide +kernel
theorem dX11_puts_63 : decode cX11_puts 63 = .ok (.ireturn, 1) := by decide +kernel
theorem dX11_turn_0 : decode cX11_turn 0 = .ok (.aload_n 0, 1) := by decide +kernel
theorem dX11_turn_1 : decode cX11_turn 1 = .ok (.getfield 29, 3) := by decide +kernel
theorem dX11_turn_4 : decode cX11_turn 4 = .ok (.getfield 173, 3) := by decide +kernel
theorem dX11_turn_7 : decode cX11_turn 7 = .ok (.bipush 99, 2) := by decide +kernel
theorem dX11_turn_9 : decode cX11_turn 9 = .ok (.if_icmp .lt 6, 3) := by decide +kernel
theorem dX11_turn_12 : decode cX11_turn 12 = .ok (.bipush (-2), 2) := by decide +kernel
theorem dX11_turn_14 : decode cX11_turn 14 = .ok (.ireturn, 1) := by decide +kernel
theorem dX11_turn_15 : decode cX11_turn 15 = .ok (.aload_n 0, 1) := by decide +kernel
theorem dX11_turn_16 : decode cX11_turn 16 = .ok (.getfield 36, 3) := by decide +kernel
theorem dX11_turn_19 : decode cX11_turn 19 = .ok (.aload_n 0, 1) := by decide +kernel
theorem dX11_turn_20 : decode cX11_turn 20 = .ok (.getfield 29, 3) := by decide +kernel
theorem dX11_turn_23 : decode cX11_turn 23 = .ok (.invokevirtual 163, 3) := by decide +kernel
theorem dX11_turn_26 : decode cX11_turn 26 = .ok (.aload_n 0, 1) := by decide +kernel
theorem dX11_turn_27 : decode cX11_turn 27 = .ok (.getfield 29, 3) := by decide +kernel
theorem dX11_turn_30 : decode cX11_turn 30 = .ok (.aload_n 0, 1) := by decide +kernel
theorem dX11_turn_31 : decode cX11_turn 31 = .ok (.getfield 10, 3) := by decide +kernel
theorem dX11_turn_34 : decode cX11_turn 34 = .ok (.invokevirtual 176, 3) := by decide +kernel
theorem dX11_turn_37 : decode cX11_turn 37 = .ok (.aload_n 0, 1) := by decide +kernel
theorem dX11_turn_38 : decode cX11_turn 38 = .ok (.getfield 29, 3) := by decide +kernel
theorem dX11_turn_41 : decode cX11_turn 41 = .ok (.aload_n 0, 1) := by decide +kernel
theorem dX11_turn_42 : decode cX11_turn 42 = .ok (.getfield 10, 3) := by decide +kernel
theorem dX11_turn_45 : decode cX11_turn 45 = .ok (.getfield 179, 3) := by decide +kernel
theorem dX11_turn_48 : decode cX11_turn 48 = .ok (.invokevirtual 182, 3) := by decide +kernel
theorem dX11_turn_51 : decode cX11_turn 51 = .ok (.invokestatic 186, 3) := by decide +kernel
theorem dX11_turn_54 : decode cX11_turn 54 = .ok (.ireturn, 1) := by decide +kernel
theorem dX11_lends_0 : decode cX11_lends 0 = .ok (.aload_n 0, 1) := by decide +kernel
theorem dX11_lends_1 : decode cX11_lends 1 = .ok (.iload_n 1, 1) := by decide +kernel
theorem dX11_lends_2 : decode cX11_lends 2 = .ok (.invokevirtual 123, 3) := by decide +kernel
theorem dX11_lends_5 : decode cX11_lends 5 = .ok (.ifCond .eq 13, 3) := by decide +kernel
theorem dX11_lends_8 : decode cX11_lends 8 = .ok (.iload_n 2, 1) := by decide +kernel
theorem dX11_lends_9 : decode cX11_lends 9 = .ok (.iconst 1, 1) := by decide +kernel
theorem dX11_lends_10 : decode cX11_lends 10 = .ok (.bipush 50, 2) := by decide +kernel
theorem dX11_lends_12 : decode cX11_lends 12 = .ok (.invokestatic 144, 3) := by decide +kernel
theorem dX11_lends_15 : decode cX11_lends 15 = .ok (.ifCond .ne 5, 3) := by decide +kernel
theorem dX11_lends_18 : decode cX11_lends 18 = .ok (.iconst (-1), 1) := by decide +kernel
theorem dX11_lends_19 : decode cX11_lends 19 = .ok (.ireturn, 1) := by decide +kernel
theorem dX11_lends_20 : decode cX11_lends 20 = .ok (.aload_n 0, 1) := by decide +kernel
theorem dX11_lends_21 : decode cX11_lends 21 = .ok (.getfield 29, 3) := by decide +kernel
theorem dX11_lends_24 : decode cX11_lends 24 = .ok (.getfield 126, 3) := by decide +kernel
theorem dX11_lends_27 : decode cX11_lends 27 = .ok (.iload_n 1, 1) := by decide +kernel
theorem dX11_lends_28 : decode cX11_lends 28 = .ok (.iaload, 1) := by decide +kernel
theorem dX11_lends_29 : decode cX11_lends 29 = .ok (.iload_n 2, 1) := by decide +kernel
theorem dX11_lends_30 : decode cX11_lends 30 = .ok (.if_icmp .ge 6, 3) := by decide +kernel
theorem dX11_lends_33 : decode cX11_lends 33 = .ok (.bipush (-2), 2) := by decide +kernel
theorem dX11_lends_35 : decode cX11_lends 35 = .ok (.ireturn, 1) := by decide +kernel
theorem dX11_lends_36 : decode cX11_lends 36 = .ok (.aload_n 0, 1) := by decide +kernel
theorem dX11_lends_37 : decode cX11_lends 37 = .ok (.getfield 36, 3) := by decide +kernel
theorem dX11_lends_40 : decode cX11_lends 40 = .ok (.aload_n 0, 1) := by decide +kernel
theorem dX11_lends_41 : decode cX11_lends 41 = .ok (.getfield 29, 3) := by decide +kernel
theorem dX11_lends_44 : decode cX11_lends 44 = .ok (.invokevirtual 163, 3) := by decide +kernel
theorem dX11_lends_47 : decode cX11_lends 47 = .ok (.aload_n 0, 1) := by decide +kernel
theorem dX11_lends_48 : decode cX11_lends 48 = .ok (.getfield 29, 3) := by decide +kernel
theorem dX11_lends_51 : decode cX11_lends 51 = .ok (.getfield 126, 3) := by decide +kernel
theorem dX11_lends_54 : decode cX11_lends 54 = .ok (.iload_n 1, 1) := by decide +kernel
theorem dX11_lends_55 : decode cX11_lends 55 = .ok (.dup2, 1) := by decide +kernel
theorem dX11_lends_56 : decode cX11_lends 56 = .ok (.iaload, 1) := by decide +kernel
theorem dX11_lends_57 : decode cX11_lends 57 = .ok (.iload_n 2, 1) := by decide +kernel
theorem dX11_lends_58 : decode cX11_lends 58 = .ok (.isub, 1) := by decide +kernel
theorem dX11_lends_59 : decode cX11_lends 59 = .ok (.iastore, 1) := by decide +kernel
theorem dX11_lends_60 : decode cX11_lends 60 = .ok (.aload_n 0, 1) := by decide +kernel
theorem dX11_lends_61 : decode cX11_lends 61 = .ok (.getfield 29, 3) := by decide +kernel
theorem dX11_lends_64 : decode cX11_lends 64 = .ok (.getfield 126, 3) := by decide +kernel
theorem dX11_lends_67 : decode cX11_lends 67 = .ok (.iload_n 1, 1) := by decide +kernel
theorem dX11_lends_68 : decode cX11_lends 68 = .ok (.iaload, 1) := by decide +kernel
theorem dX11_lends_69 : decode cX11_lends 69 = .ok (.ireturn, 1) := by decide +kernel
theorem dX11_undo_0 : decode cX11_undo 0 = .ok (.aload_n 0, 1) := by decide +kernel
theorem dX11_undo_1 : decode cX11_undo 1 = .ok (.getfield 36, 3) := by decide +kernel
theorem dX11_undo_4 : decode cX11_undo 4 = .ok (.getfield 120, 3) := by decide +kernel
theorem dX11_undo_7 : decode cX11_undo 7 = .ok (.ifCond .ne 6, 3) := by decide +kernel
theorem dX11_undo_10 : decode cX11_undo 10 = .ok (.bipush (-2), 2) := by decide +kernel
theorem dX11_undo_12 : decode cX11_undo 12 = .ok (.ireturn, 1) := by decide +kernel
theorem dX11_undo_13 : decode cX11_undo 13 = .ok (.aload_n 0, 1) := by decide +kernel
theorem dX11_undo_14 : decode cX11_undo 14 = .ok (.getfield 36, 3) := by decide +kernel
theorem dX11_undo_17 : decode cX11_undo 17 = .ok (.aload_n 0, 1) := by decide +kernel
theorem dX11_undo_18 : decode cX11_undo 18 = .ok (.getfield 29, 3) := by decide +kernel
theorem dX11_undo_21 : decode cX11_undo 21 = .ok (.invokevirtual 191, 3) := by decide +kernel
theorem dX11_undo_24 : decode cX11_undo 24 = .ok (.aload_n 0, 1) := by decide +kernel
theorem dX11_undo_25 : decode cX11_undo 25 = .ok (.getfield 36, 3) := by decide +kernel
theorem dX11_undo_28 : decode cX11_undo 28 = .ok (.getfield 120, 3) := by decide +kernel
theorem dX11_undo_31 : decode cX11_undo 31 = .ok (.ireturn, 1) := by decide +kernel
theorem dX11_now_0 : decode cX11_now 0 = .ok (.iload_n 1, 1) := by decide +kernel
theorem dX11_now_1 : decode cX11_now 1 = .ok (.tableswitch 132 0 7 #[47, 55, 63, 78, 86, 94, 109, 124], 47) := by decide +kernel
theorem dX11_now_48 : decode cX11_now 48 = .ok (.aload_n 0, 1) := by decide +kernel
theorem dX11_now_49 : decode cX11_now 49 = .ok (.getfield 29, 3) := by decide +kernel
theorem dX11_now_52 : decode cX11_now 52 = .ok (.getfield 173, 3) := by decide +kernel
theorem dX11_now_55 : decode cX11_now 55 = .ok (.ireturn, 1) := by decide +kernel
theorem dX11_now_56 : decode cX11_now 56 = .ok (.aload_n 0, 1) := by decide +kernel
theorem dX11_now_57 : decode cX11_now 57 = .ok (.getfield 29, 3) := by decide +kernel
theorem dX11_now_60 : decode cX11_now 60 = .ok (.getfield 167, 3) := by decide +kernel
theorem dX11_now_63 : decode cX11_now 63 = .ok (.ireturn, 1) := by decide +kernel
theorem dX11_now_64 : decode cX11_now 64 = .ok (.aload_n 0, 1) := by decide +kernel
theorem dX11_now_65 : decode cX11_now 65 = .ok (.getfield 29, 3) := by decide +kernel
theorem dX11_now_68 : decode cX11_now 68 = .ok (.aload_n 0, 1) := by decide +kernel
theorem dX11_now_69 : decode cX11_now 69 = .ok (.getfield 10, 3) := by decide +kernel
theorem dX11_now_72 : decode cX11_now 72 = .ok (.getfield 179, 3) := by decide +kernel
theorem dX11_now_75 : decode cX11_now 75 = .ok (.invokevirtual 182, 3) := by decide +kernel
theorem dX11_now_78 : decode cX11_now 78 = .ok (.ireturn, 1) := by decide +kernel
theorem dX11_now_79 : decode cX11_now 79 = .ok (.aload_n 0, 1) := by decide +kernel
theorem dX11_now_80 : decode cX11_now 80 = .ok (.getfield 29, 3) := by decide +kernel
theorem dX11_now_83 : decode cX11_now 83 = .ok (.getfield 194, 3) := by decide +kernel
theorem dX11_now_86 : decode cX11_now 86 = .ok (.ireturn, 1) := by decide +kernel
theorem dX11_now_87 : decode cX11_now 87 = .ok (.aload_n 0, 1) := by decide +kernel
theorem dX11_now_88 : decode cX11_now 88 = .ok (.getfield 29, 3) := by decide +kernel
theorem dX11_now_91 : decode cX11_now 91 = .ok (.getfield 170, 3) := by decide +kernel
theorem dX11_now_94 : decode cX11_now 94 = .ok (.ireturn, 1) := by decide +kernel
theorem dX11_now_95 : decode cX11_now 95 = .ok (.aload_n 0, 1) := by decide +kernel
theorem dX11_now_96 : decode cX11_now 96 = .ok (.getfield 29, 3) := by decide +kernel
theorem dX11_now_99 : decode cX11_now 99 = .ok (.aload_n 0, 1) := by decide +kernel
theorem dX11_now_100 : decode cX11_now 100 = .ok (.getfield 10, 3) := by decide +kernel
theorem dX11_now_103 : decode cX11_now 103 = .ok (.getfield 179, 3) := by decide +kernel
theorem dX11_now_106 : decode cX11_now 106 = .ok (.invokevirtual 197, 3) := by decide +kernel
theorem dX11_now_109 : decode cX11_now 109 = .ok (.ireturn, 1) := by decide +kernel
theorem dX11_now_110 : decode cX11_now 110 = .ok (.aload_n 0, 1) := by decide +kernel
theorem dX11_now_111 : decode cX11_now 111 = .ok (.getfield 29, 3) := by decide +kernel
theorem dX11_now_114 : decode cX11_now 114 = .ok (.aload_n 0, 1) := by decide +kernel
theorem dX11_now_115 : decode cX11_now 115 = .ok (.getfield 10, 3) := by decide +kernel
theorem dX11_now_118 : decode cX11_now 118 = .ok (.getfield 179, 3) := by decide +kernel
theorem dX11_now_121 : decode cX11_now 121 = .ok (.invokevirtual 200, 3) := by decide +kernel
theorem dX11_now_124 : decode cX11_now 124 = .ok (.ireturn, 1) := by decide +kernel
theorem dX11_now_125 : decode cX11_now 125 = .ok (.aload_n 0, 1) := by decide +kernel
theorem dX11_now_126 : decode cX11_now 126 = .ok (.getfield 36, 3) := by decide +kernel
theorem dX11_now_129 : decode cX11_now 129 = .ok (.getfield 120, 3) := by decide +kernel
theorem dX11_now_132 : decode cX11_now 132 = .ok (.ireturn, 1) := by decide +kernel
theorem dX11_now_133 : decode cX11_now 133 = .ok (.iconst (-1), 1) := by decide +kernel
theorem dX11_now_134 : decode cX11_now 134 = .ok (.ireturn, 1) := by decide +kernel
theorem dX11_plan_0 : decode cX11_plan 0 = .ok (.iload_n 1, 1) := by decide +kernel
theorem dX11_plan_1 : decode cX11_plan 1 = .ok (.iconst 0, 1) := by decide +kernel
theorem dX11_plan_2 : decode cX11_plan 2 = .ok (.iconst 4, 1) := by decide +kernel
theorem dX11_plan_3 : decode cX11_plan 3 = .ok (.invokestatic 144, 3) := by decide +kernel
theorem dX11_plan_6 : decode cX11_plan 6 = .ok (.ifCond .eq 13, 3) := by decide +kernel
theorem dX11_plan_9 : decode cX11_plan 9 = .ok (.iload_n 2, 1) := by decide +kernel
theorem dX11_plan_10 : decode cX11_plan 10 = .ok (.iconst 0, 1) := by decide +kernel
theorem dX11_plan_11 : decode cX11_plan 11 = .ok (.bipush 6, 2) := by decide +kernel
theorem dX11_plan_13 : decode cX11_plan 13 = .ok (.invokestatic 144, 3) := by decide +kernel
theorem dX11_plan_16 : decode cX11_plan 16 = .ok (.ifCond .ne 5, 3) := by decide +kernel
theorem dX11_plan_19 : decode cX11_plan 19 = .ok (.iconst (-1), 1) := by decide +kernel
theorem dX11_plan_20 : decode cX11_plan 20 = .ok (.ireturn, 1) := by decide +kernel
theorem dX11_plan_21 : decode cX11_plan 21 = .ok (.iload_n 2, 1) := by decide +kernel
theorem dX11_plan_22 : decode cX11_plan 22 = .ok (.iconst 4, 1) := by decide +kernel
theorem dX11_plan_23 : decode cX11_plan 23 = .ok (.if_icmp .ge 11, 3) := by decide +kernel
theorem dX11_plan_26 : decode cX11_plan 26 = .ok (.iload_n 2, 1) := by decide +kernel
theorem dX11_plan_27 : decode cX11_plan 27 = .ok (.iload_n 1, 1) := by decide +kernel
theorem dX11_plan_28 : decode cX11_plan 28 = .ok (.if_icmp .lt 6, 3) := by decide +kernel
theorem dX11_plan_31 : decode cX11_plan 31 = .ok (.bipush (-5), 2) := by decide +kernel
theorem dX11_plan_33 : decode cX11_plan 33 = .ok (.ireturn, 1) := by decide +kernel
theorem dX11_plan_34 : decode cX11_plan 34 = .ok (.aload_n 0, 1) := by decide +kernel
theorem dX11_plan_35 : decode cX11_plan 35 = .ok (.getfield 43, 3) := by decide +kernel
theorem dX11_plan_38 : decode cX11_plan 38 = .ok (.aload_n 0, 1) := by decide +kernel
theorem dX11_plan_39 : decode cX11_plan 39 = .ok (.getfield 10, 3) := by decide +kernel
theorem dX11_plan_42 : decode cX11_plan 42 = .ok (.aload_n 0, 1) := by decide +kernel
theorem dX11_plan_43 : decode cX11_plan 43 = .ok (.getfield 29, 3) := by decide +kernel
theorem dX11_plan_46 : decode cX11_plan 46 = .ok (.iload_n 1, 1) := by decide +kernel
theorem dX11_plan_47 : decode cX11_plan 47 = .ok (.invokevirtual 203, 3) := by decide +kernel
theorem dX11_plan_50 : decode cX11_plan 50 = .ok (.iload_n 2, 1) := by decide +kernel
theorem dX11_plan_51 : decode cX11_plan 51 = .ok (.tableswitch 49 4 6 #[25, 33, 41], 25) := by decide +kernel
theorem dX11_plan_76 : decode cX11_plan 76 = .ok (.aload_n 0, 1) := by decide +kernel
theorem dX11_plan_77 : decode cX11_plan 77 = .ok (.getfield 43, 3) := by decide +kernel
theorem dX11_plan_80 : decode cX11_plan 80 = .ok (.invokevirtual 207, 3) := by decide +kernel
theorem dX11_plan_83 : decode cX11_plan 83 = .ok (.ireturn, 1) := by decide +kernel
theorem dX11_plan_84 : decode cX11_plan 84 = .ok (.aload_n 0, 1) := by decide +kernel
theorem dX11_plan_85 : decode cX11_plan 85 = .ok (.getfield 43, 3) := by decide +kernel
theorem dX11_plan_88 : decode cX11_plan 88 = .ok (.invokevirtual 210, 3) := by decide +kernel
theorem dX11_plan_91 : decode cX11_plan 91 = .ok (.ireturn, 1) := by decide +kernel
theorem dX11_plan_92 : decode cX11_plan 92 = .ok (.aload_n 0, 1) := by decide +kernel
theorem dX11_plan_93 : decode cX11_plan 93 = .ok (.getfield 43, 3) := by decide +kernel
theorem dX11_plan_96 : decode cX11_plan 96 = .ok (.invokevirtual 212, 3) := by decide +kernel
theorem dX11_plan_99 : decode cX11_plan 99 = .ok (.ireturn, 1) := by decide +kernel
theorem dX11_plan_100 : decode cX11_plan 100 = .ok (.aload_n 0, 1) := by decide +kernel
theorem dX11_plan_101 : decode cX11_plan 101 = .ok (.getfield 43, 3) := by decide +kernel
theorem dX11_plan_104 : decode cX11_plan 104 = .ok (.getfield 214, 3) := by decide +kernel
theorem dX11_plan_107 : decode cX11_plan 107 = .ok (.iload_n 2, 1) := by decide +kernel
theorem dX11_plan_108 : decode cX11_plan 108 = .ok (.iaload, 1) := by decide +kernel
theorem dX11_plan_109 : decode cX11_plan 109 = .ok (.ireturn, 1) := by decide +kernel
theorem dX11_fullBy_0 : decode cX11_fullBy 0 = .ok (.aload_n 0, 1) := by decide +kernel
theorem dX11_fullBy_1 : decode cX11_fullBy 1 = .ok (.iload_n 1, 1) := by decide +kernel
theorem dX11_fullBy_2 : decode cX11_fullBy 2 = .ok (.invokevirtual 123, 3) := by decide +kernel
theorem dX11_fullBy_5 : decode cX11_fullBy 5 = .ok (.ifCond .eq 13, 3) := by decide +kernel
theorem dX11_fullBy_8 : decode cX11_fullBy 8 = .ok (.iload_n 2, 1) := by decide +kernel
theorem dX11_fullBy_9 : decode cX11_fullBy 9 = .ok (.iconst 0, 1) := by decide +kernel
theorem dX11_fullBy_10 : decode cX11_fullBy 10 = .ok (.bipush 100, 2) := by decide +kernel
theorem dX11_fullBy_12 : decode cX11_fullBy 12 = .ok (.invokestatic 144, 3) := by decide +kernel
theorem dX11_fullBy_15 : decode cX11_fullBy 15 = .ok (.ifCond .ne 5, 3) := by decide +kernel
theorem dX11_fullBy_18 : decode cX11_fullBy 18 = .ok (.iconst (-1), 1) := by decide +kernel
theorem dX11_fullBy_19 : decode cX11_fullBy 19 = .ok (.ireturn, 1) := by decide +kernel
theorem dX11_fullBy_20 : decode cX11_fullBy 20 = .ok (.aload_n 0, 1) := by decide +kernel
theorem dX11_fullBy_21 : decode cX11_fullBy 21 = .ok (.getfield 29, 3) := by decide +kernel
theorem dX11_fullBy_24 : decode cX11_fullBy 24 = .ok (.getfield 126, 3) := by decide +kernel
theorem dX11_fullBy_27 : decode cX11_fullBy 27 = .ok (.iload_n 1, 1) := by decide +kernel
theorem dX11_fullBy_28 : decode cX11_fullBy 28 = .ok (.iaload, 1) := by decide +kernel
theorem dX11_fullBy_29 : decode cX11_fullBy 29 = .ok (.istore_n 3, 1) := by decide +kernel
theorem dX11_fullBy_30 : decode cX11_fullBy 30 = .ok (.iconst 0, 1) := by decide +kernel
theorem dX11_fullBy_31 : decode cX11_fullBy 31 = .ok (.istore 4, 2) := by decide +kernel
theorem dX11_fullBy_33 : decode cX11_fullBy 33 = .ok (.iload 4, 2) := by decide +kernel
theorem dX11_fullBy_35 : decode cX11_fullBy 35 = .ok (.bipush 60, 2) := by decide +kernel
theorem dX11_fullBy_37 : decode cX11_fullBy 37 = .ok (.if_icmp .gt 38, 3) := by decide +kernel
theorem dX11_fullBy_40 : decode cX11_fullBy 40 = .ok (.iload_n 3, 1) := by decide +kernel
theorem dX11_fullBy_41 : decode cX11_fullBy 41 = .ok (.iload_n 2, 1) := by decide +kernel
theorem dX11_fullBy_42 : decode cX11_fullBy 42 = .ok (.if_icmp .lt 6, 3) := by decide +kernel
theorem dX11_fullBy_45 : decode cX11_fullBy 45 = .ok (.iload 4, 2) := by decide +kernel
theorem dX11_fullBy_47 : decode cX11_fullBy 47 = .ok (.ireturn, 1) := by decide +kernel
theorem dX11_fullBy_48 : decode cX11_fullBy 48 = .ok (.aload_n 0, 1) := by decide +kernel
theorem dX11_fullBy_49 : decode cX11_fullBy 49 = .ok (.getfield 10, 3) := by decide +kernel
theorem dX11_fullBy_52 : decode cX11_fullBy 52 = .ok (.aload_n 0, 1) := by decide +kernel
theorem dX11_fullBy_53 : decode cX11_fullBy 53 = .ok (.getfield 29, 3) := by decide +kernel
theorem dX11_fullBy_56 : decode cX11_fullBy 56 = .ok (.getfield 173, 3) := by decide +kernel
theorem dX11_fullBy_59 : decode cX11_fullBy 59 = .ok (.iload 4, 2) := by decide +kernel
theorem dX11_fullBy_61 : decode cX11_fullBy 61 = .ok (.iadd, 1) := by decide +kernel
theorem dX11_fullBy_62 : decode cX11_fullBy 62 = .ok (.iload_n 1, 1) := by decide +kernel
theorem dX11_fullBy_63 : decode cX11_fullBy 63 = .ok (.iload_n 3, 1) := by decide +kernel
theorem dX11_fullBy_64 : decode cX11_fullBy 64 = .ok (.iconst 1, 1) := by decide +kernel
theorem dX11_fullBy_65 : decode cX11_fullBy 65 = .ok (.invokevirtual 217, 3) := by decide +kernel
theorem dX11_fullBy_68 : decode cX11_fullBy 68 = .ok (.istore_n 3, 1) := by decide +kernel
theorem dX11_fullBy_69 : decode cX11_fullBy 69 = .ok (.iinc 4 1, 3) := by decide +kernel
theorem dX11_fullBy_72 : decode cX11_fullBy 72 = .ok (.goto (-39), 3) := by decide +kernel
theorem dX11_fullBy_75 : decode cX11_fullBy 75 = .ok (.bipush (-9), 2) := by decide +kernel
theorem dX11_fullBy_77 : decode cX11_fullBy 77 = .ok (.ireturn, 1) := by decide +kernel
theorem dX11_latest_0 : decode cX11_latest 0 = .ok (.aload_n 0, 1) := by decide +kernel
theorem dX11_latest_1 : decode cX11_latest 1 = .ok (.iload_n 1, 1) := by decide +kernel
theorem dX11_latest_2 : decode cX11_latest 2 = .ok (.invokevirtual 123, 3) := by decide +kernel
theorem dX11_latest_5 : decode cX11_latest 5 = .ok (.ifCond .eq 19, 3) := by decide +kernel
theorem dX11_latest_8 : decode cX11_latest 8 = .ok (.iload_n 2, 1) := by decide +kernel
theorem dX11_latest_9 : decode cX11_latest 9 = .ok (.aload_n 0, 1) := by decide +kernel
theorem dX11_latest_10 : decode cX11_latest 10 = .ok (.getfield 29, 3) := by decide +kernel
theorem dX11_latest_13 : decode cX11_latest 13 = .ok (.getfield 173, 3) := by decide +kernel
theorem dX11_latest_16 : decode cX11_latest 16 = .ok (.bipush 60, 2) := by decide +kernel
theorem dX11_latest_18 : decode cX11_latest 18 = .ok (.invokestatic 144, 3) := by decide +kernel
theorem dX11_latest_21 : decode cX11_latest 21 = .ok (.ifCond .ne 5, 3) := by decide +kernel
theorem dX11_latest_24 : decode cX11_latest 24 = .ok (.iconst (-1), 1) := by decide +kernel
theorem dX11_latest_25 : decode cX11_latest 25 = .ok (.ireturn, 1) := by decide +kernel
theorem dX11_latest_26 : decode cX11_latest 26 = .ok (.iload_n 2, 1) := by decide +kernel
theorem dX11_latest_27 : decode cX11_latest 27 = .ok (.iconst 1, 1) := by decide +kernel
theorem dX11_latest_28 : decode cX11_latest 28 = .ok (.iadd, 1) := by decide +kernel
theorem dX11_latest_29 : decode cX11_latest 29 = .ok (.istore_n 3, 1) := by decide +kernel
theorem dX11_latest_30 : decode cX11_latest 30 = .ok (.iload_n 3, 1) := by decide +kernel
theorem dX11_latest_31 : decode cX11_latest 31 = .ok (.aload_n 0, 1) := by decide +kernel
theorem dX11_latest_32 : decode cX11_latest 32 = .ok (.getfield 29, 3) := by decide +kernel
theorem dX11_latest_35 : decode cX11_latest 35 = .ok (.getfield 173, 3) := by decide +kernel
theorem dX11_latest_38 : decode cX11_latest 38 = .ok (.if_icmp .lt 21, 3) := by decide +kernel
theorem dX11_latest_41 : decode cX11_latest 41 = .ok (.aload_n 0, 1) := by decide +kernel
theorem dX11_latest_42 : decode cX11_latest 42 = .ok (.iload_n 1, 1) := by decide +kernel
theorem dX11_latest_43 : decode cX11_latest 43 = .ok (.iload_n 3, 1) := by decide +kernel
theorem dX11_latest_44 : decode cX11_latest 44 = .ok (.iload_n 2, 1) := by decide +kernel
theorem dX11_latest_45 : decode cX11_latest 45 = .ok (.invokevirtual 221, 3) := by decide +kernel
theorem dX11_latest_48 : decode cX11_latest 48 = .ok (.ifCond .eq 5, 3) := by decide +kernel
theorem dX11_latest_51 : decode cX11_latest 51 = .ok (.iload_n 3, 1) := by decide +kernel
theorem dX11_latest_52 : decode cX11_latest 52 = .ok (.ireturn, 1) := by decide +kernel
theorem dX11_latest_53 : decode cX11_latest 53 = .ok (.iinc 3 (-1), 3) := by decide +kernel
theorem dX11_latest_56 : decode cX11_latest 56 = .ok (.goto (-26), 3) := by decide +kernel
theorem dX11_latest_59 : decode cX11_latest 59 = .ok (.bipush (-9), 2) := by decide +kernel
theorem dX11_latest_61 : decode cX11_latest 61 = .ok (.ireturn, 1) := by decide +kernel
theorem dX11_holdsOut_0 : decode cX11_holdsOut 0 = .ok (.aload_n 0, 1) := by decide +kernel
theorem dX11_holdsOut_1 : decode cX11_holdsOut 1 = .ok (.getfield 29, 3) := by decide +kernel
theorem dX11_holdsOut_4 : decode cX11_holdsOut 4 = .ok (.getfield 126, 3) := by decide +kernel
theorem dX11_holdsOut_7 : decode cX11_holdsOut 7 = .ok (.iload_n 1, 1) := by decide +kernel
theorem dX11_holdsOut_8 : decode cX11_holdsOut 8 = .ok (.iaload, 1) := by decide +kernel
theorem dX11_holdsOut_9 : decode cX11_holdsOut 9 = .ok (.istore 4, 2) := by decide +kernel
theorem dX11_holdsOut_11 : decode cX11_holdsOut 11 = .ok (.aload_n 0, 1) := by decide +kernel
theorem dX11_holdsOut_12 : decode cX11_holdsOut 12 = .ok (.getfield 29, 3) := by decide +kernel
theorem dX11_holdsOut_15 : decode cX11_holdsOut 15 = .ok (.getfield 173, 3) := by decide +kernel
theorem dX11_holdsOut_18 : decode cX11_holdsOut 18 = .ok (.istore 5, 2) := by decide +kernel
theorem dX11_holdsOut_20 : decode cX11_holdsOut 20 = .ok (.iload 5, 2) := by decide +kernel
theorem dX11_holdsOut_22 : decode cX11_holdsOut 22 = .ok (.iload_n 3, 1) := by decide +kernel
theorem dX11_holdsOut_23 : decode cX11_holdsOut 23 = .ok (.if_icmp .gt 51, 3) := by decide +kernel
theorem dX11_holdsOut_26 : decode cX11_holdsOut 26 = .ok (.aload_n 0, 1) := by decide +kernel
theorem dX11_holdsOut_27 : decode cX11_holdsOut 27 = .ok (.getfield 10, 3) := by decide +kernel
theorem dX11_holdsOut_30 : decode cX11_holdsOut 30 = .ok (.iload 5, 2) := by decide +kernel
theorem dX11_holdsOut_32 : decode cX11_holdsOut 32 = .ok (.iload_n 1, 1) := by decide +kernel
theorem dX11_holdsOut_33 : decode cX11_holdsOut 33 = .ok (.iload 4, 2) := by decide +kernel
theorem dX11_holdsOut_35 : decode cX11_holdsOut 35 = .ok (.invokevirtual 224, 3) := by decide +kernel
theorem dX11_holdsOut_38 : decode cX11_holdsOut 38 = .ok (.ifCond .le 5, 3) := by decide +kernel
theorem dX11_holdsOut_41 : decode cX11_holdsOut 41 = .ok (.iconst 0, 1) := by decide +kernel
theorem dX11_holdsOut_42 : decode cX11_holdsOut 42 = .ok (.ireturn, 1) := by decide +kernel
theorem dX11_holdsOut_43 : decode cX11_holdsOut 43 = .ok (.aload_n 0, 1) := by decide +kernel
theorem dX11_holdsOut_44 : decode cX11_holdsOut 44 = .ok (.getfield 10, 3) := by decide +kernel
theorem dX11_holdsOut_47 : decode cX11_holdsOut 47 = .ok (.iload 5, 2) := by decide +kernel
theorem dX11_holdsOut_49 : decode cX11_holdsOut 49 = .ok (.iload_n 1, 1) := by decide +kernel
theorem dX11_holdsOut_50 : decode cX11_holdsOut 50 = .ok (.iload 4, 2) := by decide +kernel
theorem dX11_holdsOut_52 : decode cX11_holdsOut 52 = .ok (.iload 5, 2) := by decide +kernel
theorem dX11_holdsOut_54 : decode cX11_holdsOut 54 = .ok (.iload_n 2, 1) := by decide +kernel
theorem dX11_holdsOut_55 : decode cX11_holdsOut 55 = .ok (.if_icmp .lt 7, 3) := by decide +kernel
theorem dX11_holdsOut_58 : decode cX11_holdsOut 58 = .ok (.iconst 1, 1) := by decide +kernel
theorem dX11_holdsOut_59 : decode cX11_holdsOut 59 = .ok (.goto 4, 3) := by decide +kernel
theorem dX11_holdsOut_62 : decode cX11_holdsOut 62 = .ok (.iconst 0, 1) := by decide +kernel
theorem dX11_holdsOut_63 : decode cX11_holdsOut 63 = .ok (.invokevirtual 217, 3) := by decide +kernel
theorem dX11_holdsOut_66 : decode cX11_holdsOut 66 = .ok (.istore 4, 2) := by decide +kernel
theorem dX11_holdsOut_68 : decode cX11_holdsOut 68 = .ok (.iinc 5 1, 3) := by decide +kernel
theorem dX11_holdsOut_71 : decode cX11_holdsOut 71 = .ok (.goto (-51), 3) := by decide +kernel
theorem dX11_holdsOut_74 : decode cX11_holdsOut 74 = .ok (.iconst 1, 1) := by decide +kernel
theorem dX11_holdsOut_75 : decode cX11_holdsOut 75 = .ok (.ireturn, 1) := by decide +kernel
theorem dX11_says_0 : decode cX11_says 0 = .ok (.aload_n 0, 1) := by decide +kernel
theorem dX11_says_1 : decode cX11_says 1 = .ok (.iload_n 1, 1) := by decide +kernel
theorem dX11_says_2 : decode cX11_says 2 = .ok (.invokevirtual 123, 3) := by decide +kernel
theorem dX11_says_5 : decode cX11_says 5 = .ok (.ifCond .eq 34, 3) := by decide +kernel
theorem dX11_says_8 : decode cX11_says 8 = .ok (.iload_n 2, 1) := by decide +kernel
theorem dX11_says_9 : decode cX11_says 9 = .ok (.iconst 0, 1) := by decide +kernel
theorem dX11_says_10 : decode cX11_says 10 = .ok (.bipush 100, 2) := by decide +kernel
theorem dX11_says_12 : decode cX11_says 12 = .ok (.invokestatic 144, 3) := by decide +kernel
theorem dX11_says_15 : decode cX11_says 15 = .ok (.ifCond .eq 24, 3) := by decide +kernel
theorem dX11_says_18 : decode cX11_says 18 = .ok (.iload_n 3, 1) := by decide +kernel
theorem dX11_says_19 : decode cX11_says 19 = .ok (.iconst 1, 1) := by decide +kernel
theorem dX11_says_20 : decode cX11_says 20 = .ok (.bipush 20, 2) := by decide +kernel
theorem dX11_says_22 : decode cX11_says 22 = .ok (.invokestatic 144, 3) := by decide +kernel
theorem dX11_says_25 : decode cX11_says 25 = .ok (.ifCond .eq 14, 3) := by decide +kernel
theorem dX11_says_28 : decode cX11_says 28 = .ok (.iload 4, 2) := by decide +kernel
theorem dX11_says_30 : decode cX11_says 30 = .ok (.iconst 0, 1) := by decide +kernel
theorem dX11_says_31 : decode cX11_says 31 = .ok (.bipush 100, 2) := by decide +kernel
theorem dX11_says_33 : decode cX11_says 33 = .ok (.invokestatic 144, 3) := by decide +kernel
theorem dX11_says_36 : decode cX11_says 36 = .ok (.ifCond .ne 5, 3) := by decide +kernel
theorem dX11_says_39 : decode cX11_says 39 = .ok (.iconst (-1), 1) := by decide +kernel
theorem dX11_says_40 : decode cX11_says 40 = .ok (.ireturn, 1) := by decide +kernel
theorem dX11_says_41 : decode cX11_says 41 = .ok (.aload_n 0, 1) := by decide +kernel
theorem dX11_says_42 : decode cX11_says 42 = .ok (.getfield 75, 3) := by decide +kernel
theorem dX11_says_45 : decode cX11_says 45 = .ok (.bipush 6, 2) := by decide +kernel
theorem dX11_says_47 : decode cX11_says 47 = .ok (.if_icmp .lt 6, 3) := by decide +kernel
theorem dX11_says_50 : decode cX11_says 50 = .ok (.bipush (-3), 2) := by decide +kernel
theorem dX11_says_52 : decode cX11_says 52 = .ok (.ireturn, 1) := by decide +kernel
theorem dX11_says_53 : decode cX11_says 53 = .ok (.aload_n 0, 1) := by decide +kernel
theorem dX11_says_54 : decode cX11_says 54 = .ok (.getfield 62, 3) := by decide +kernel
theorem dX11_says_57 : decode cX11_says 57 = .ok (.aload_n 0, 1) := by decide +kernel
theorem dX11_says_58 : decode cX11_says 58 = .ok (.getfield 75, 3) := by decide +kernel
theorem dX11_says_61 : decode cX11_says 61 = .ok (.iload_n 1, 1) := by decide +kernel
theorem dX11_says_62 : decode cX11_says 62 = .ok (.iastore, 1) := by decide +kernel
theorem dX11_says_63 : decode cX11_says 63 = .ok (.aload_n 0, 1) := by decide +kernel
theorem dX11_says_64 : decode cX11_says 64 = .ok (.getfield 66, 3) := by decide +kernel
theorem dX11_says_67 : decode cX11_says 67 = .ok (.aload_n 0, 1) := by decide +kernel
theorem dX11_says_68 : decode cX11_says 68 = .ok (.getfield 75, 3) := by decide +kernel
theorem dX11_says_71 : decode cX11_says 71 = .ok (.iload_n 2, 1) := by decide +kernel
theorem dX11_says_72 : decode cX11_says 72 = .ok (.iastore, 1) := by decide +kernel
theorem dX11_says_73 : decode cX11_says 73 = .ok (.aload_n 0, 1) := by decide +kernel
theorem dX11_says_74 : decode cX11_says 74 = .ok (.getfield 69, 3) := by decide +kernel
theorem dX11_says_77 : decode cX11_says 77 = .ok (.aload_n 0, 1) := by decide +kernel
theorem dX11_says_78 : decode cX11_says 78 = .ok (.getfield 75, 3) := by decide +kernel
theorem dX11_says_81 : decode cX11_says 81 = .ok (.iload_n 3, 1) := by decide +kernel
theorem dX11_says_82 : decode cX11_says 82 = .ok (.iastore, 1) := by decide +kernel
theorem dX11_says_83 : decode cX11_says 83 = .ok (.aload_n 0, 1) := by decide +kernel
theorem dX11_says_84 : decode cX11_says 84 = .ok (.getfield 72, 3) := by decide +kernel
theorem dX11_says_87 : decode cX11_says 87 = .ok (.aload_n 0, 1) := by decide +kernel
theorem dX11_says_88 : decode cX11_says 88 = .ok (.getfield 75, 3) := by decide +kernel
theorem dX11_says_91 : decode cX11_says 91 = .ok (.iload 4, 2) := by decide +kernel
theorem dX11_says_93 : decode cX11_says 93 = .ok (.iastore, 1) := by decide +kernel
theorem dX11_says_94 : decode cX11_says 94 = .ok (.aload_n 0, 1) := by decide +kernel
theorem dX11_says_95 : decode cX11_says 95 = .ok (.dup, 1) := by decide +kernel
theorem dX11_says_96 : decode cX11_says 96 = .ok (.getfield 75, 3) := by decide +kernel
theorem dX11_says_99 : decode cX11_says 99 = .ok (.iconst 1, 1) := by decide +kernel
theorem dX11_says_100 : decode cX11_says 100 = .ok (.iadd, 1) := by decide +kernel
theorem dX11_says_101 : decode cX11_says 101 = .ok (.putfield 75, 3) := by decide +kernel
theorem dX11_says_104 : decode cX11_says 104 = .ok (.aload_n 0, 1) := by decide +kernel
theorem dX11_says_105 : decode cX11_says 105 = .ok (.getfield 75, 3) := by decide +kernel
theorem dX11_says_108 : decode cX11_says 108 = .ok (.ireturn, 1) := by decide +kernel
theorem dX11_forget_0 : decode cX11_forget 0 = .ok (.aload_n 0, 1) := by decide +kernel
theorem dX11_forget_1 : decode cX11_forget 1 = .ok (.getfield 75, 3) := by decide +kernel
theorem dX11_forget_4 : decode cX11_forget 4 = .ok (.istore_n 1, 1) := by decide +kernel
theorem dX11_forget_5 : decode cX11_forget 5 = .ok (.aload_n 0, 1) := by decide +kernel
theorem dX11_forget_6 : decode cX11_forget 6 = .ok (.iconst 0, 1) := by decide +kernel
theorem dX11_forget_7 : decode cX11_forget 7 = .ok (.putfield 75, 3) := by decide +kernel
theorem dX11_forget_10 : decode cX11_forget 10 = .ok (.iload_n 1, 1) := by decide +kernel
theorem dX11_forget_11 : decode cX11_forget 11 = .ok (.ireturn, 1) := by decide +kernel
theorem dX11_could_0 : decode cX11_could 0 = .ok (.iload_n 1, 1) := by decide +kernel
theorem dX11_could_1 : decode cX11_could 1 = .ok (.iconst 0, 1) := by decide +kernel
theorem dX11_could_2 : decode cX11_could 2 = .ok (.aload_n 0, 1) := by decide +kernel
theorem dX11_could_3 : decode cX11_could 3 = .ok (.getfield 75, 3) := by decide +kernel
theorem dX11_could_6 : decode cX11_could 6 = .ok (.iconst 1, 1) := by decide +kernel
theorem dX11_could_7 : decode cX11_could 7 = .ok (.isub, 1) := by decide +kernel
theorem dX11_could_8 : decode cX11_could 8 = .ok (.invokestatic 144, 3) := by decide +kernel
theorem dX11_could_11 : decode cX11_could 11 = .ok (.ifCond .eq 12, 3) := by decide +kernel
theorem dX11_could_14 : decode cX11_could 14 = .ok (.iload_n 2, 1) := by decide +kernel
theorem dX11_could_15 : decode cX11_could 15 = .ok (.iconst 0, 1) := by decide +kernel
theorem dX11_could_16 : decode cX11_could 16 = .ok (.iconst 2, 1) := by decide +kernel
theorem dX11_could_17 : decode cX11_could 17 = .ok (.invokestatic 144, 3) := by decide +kernel
theorem dX11_could_20 : decode cX11_could 20 = .ok (.ifCond .ne 5, 3) := by decide +kernel
theorem dX11_could_23 : decode cX11_could 23 = .ok (.iconst (-1), 1) := by decide +kernel
theorem dX11_could_24 : decode cX11_could 24 = .ok (.ireturn, 1) := by decide +kernel
theorem dX11_could_25 : decode cX11_could 25 = .ok (.iconst 0, 1) := by decide +kernel
theorem dX11_could_26 : decode cX11_could 26 = .ok (.istore_n 3, 1) := by decide +kernel
theorem dX11_could_27 : decode cX11_could 27 = .ok (.bipush (-9), 2) := by decide +kernel
theorem dX11_could_29 : decode cX11_could 29 = .ok (.istore 4, 2) := by decide +kernel
theorem dX11_could_31 : decode cX11_could 31 = .ok (.bipush (-9), 2) := by decide +kernel
theorem dX11_could_33 : decode cX11_could 33 = .ok (.istore 5, 2) := by decide +kernel
theorem dX11_could_35 : decode cX11_could 35 = .ok (.iconst 0, 1) := by decide +kernel
theorem dX11_could_36 : decode cX11_could 36 = .ok (.istore 6, 2) := by decide +kernel
theorem dX11_could_38 : decode cX11_could 38 = .ok (.iload 6, 2) := by decide +kernel
theorem dX11_could_40 : decode cX11_could 40 = .ok (.bipush 100, 2) := by decide +kernel
theorem dX11_could_42 : decode cX11_could 42 = .ok (.if_icmp .gt 40, 3) := by decide +kernel
theorem dX11_could_45 : decode cX11_could 45 = .ok (.aload_n 0, 1) := by decide +kernel
theorem dX11_could_46 : decode cX11_could 46 = .ok (.iload_n 1, 1) := by decide +kernel
theorem dX11_could_47 : decode cX11_could 47 = .ok (.iload 6, 2) := by decide +kernel
theorem dX11_could_49 : decode cX11_could 49 = .ok (.invokevirtual 228, 3) := by decide +kernel
theorem dX11_could_52 : decode cX11_could 52 = .ok (.ifCond .eq 24, 3) := by decide +kernel
theorem dX11_could_55 : decode cX11_could 55 = .ok (.iinc 3 1, 3) := by decide +kernel
theorem dX11_could_58 : decode cX11_could 58 = .ok (.iload_n 3, 1) := by decide +kernel
theorem dX11_could_59 : decode cX11_could 59 = .ok (.iconst 1, 1) := by decide +kernel
theorem dX11_could_60 : decode cX11_could 60 = .ok (.if_icmp .ne 8, 3) := by decide +kernel
theorem dX11_could_63 : decode cX11_could 63 = .ok (.iload 6, 2) := by decide +kernel
theorem dX11_could_65 : decode cX11_could 65 = .ok (.goto 5, 3) := by decide +kernel
theorem dX11_could_68 : decode cX11_could 68 = .ok (.iload 4, 2) := by decide +kernel
theorem dX11_could_70 : decode cX11_could 70 = .ok (.istore 4, 2) := by decide +kernel
theorem dX11_could_72 : decode cX11_could 72 = .ok (.iload 6, 2) := by decide +kernel
theorem dX11_could_74 : decode cX11_could 74 = .ok (.istore 5, 2) := by decide +kernel
theorem dX11_could_76 : decode cX11_could 76 = .ok (.iinc 6 1, 3) := by decide +kernel
theorem dX11_could_79 : decode cX11_could 79 = .ok (.goto (-41), 3) := by decide +kernel
theorem dX11_could_82 : decode cX11_could 82 = .ok (.iload_n 2, 1) := by decide +kernel
theorem dX11_could_83 : decode cX11_could 83 = .ok (.ifCond .ne 7, 3) := by decide +kernel
theorem dX11_could_86 : decode cX11_could 86 = .ok (.iload_n 3, 1) := by decide +kernel
theorem dX11_could_87 : decode cX11_could 87 = .ok (.goto 15, 3) := by decide +kernel
theorem dX11_could_90 : decode cX11_could 90 = .ok (.iload_n 2, 1) := by decide +kernel
theorem dX11_could_91 : decode cX11_could 91 = .ok (.iconst 1, 1) := by decide +kernel
theorem dX11_could_92 : decode cX11_could 92 = .ok (.if_icmp .ne 8, 3) := by decide +kernel
theorem dX11_could_95 : decode cX11_could 95 = .ok (.iload 4, 2) := by decide +kernel
theorem dX11_could_97 : decode cX11_could 97 = .ok (.goto 5, 3) := by decide +kernel
theorem dX11_could_100 : decode cX11_could 100 = .ok (.iload 5, 2) := by decide +kernel
theorem dX11_could_102 : decode cX11_could 102 = .ok (.ireturn, 1) := by decide +kernel
theorem dX11_liars_0 : decode cX11_liars 0 = .ok (.iconst 0, 1) := by decide +kernel
theorem dX11_liars_1 : decode cX11_liars 1 = .ok (.istore_n 1, 1) := by decide +kernel
theorem dX11_liars_2 : decode cX11_liars 2 = .ok (.iconst 0, 1) := by decide +kernel
theorem dX11_liars_3 : decode cX11_liars 3 = .ok (.istore_n 2, 1) := by decide +kernel
theorem dX11_liars_4 : decode cX11_liars 4 = .ok (.iload_n 2, 1) := by decide +kernel
theorem dX11_liars_5 : decode cX11_liars 5 = .ok (.aload_n 0, 1) := by decide +kernel
theorem dX11_liars_6 : decode cX11_liars 6 = .ok (.getfield 75, 3) := by decide +kernel
theorem dX11_liars_9 : decode cX11_liars 9 = .ok (.if_icmp .ge 29, 3) := by decide +kernel
theorem dX11_liars_12 : decode cX11_liars 12 = .ok (.aload_n 0, 1) := by decide +kernel
theorem dX11_liars_13 : decode cX11_liars 13 = .ok (.iload_n 2, 1) := by decide +kernel
theorem dX11_liars_14 : decode cX11_liars 14 = .ok (.aload_n 0, 1) := by decide +kernel
theorem dX11_liars_15 : decode cX11_liars 15 = .ok (.getfield 66, 3) := by decide +kernel
theorem dX11_liars_18 : decode cX11_liars 18 = .ok (.iload_n 2, 1) := by decide +kernel
theorem dX11_liars_19 : decode cX11_liars 19 = .ok (.iaload, 1) := by decide +kernel
theorem dX11_liars_20 : decode cX11_liars 20 = .ok (.invokevirtual 228, 3) := by decide +kernel
theorem dX11_liars_23 : decode cX11_liars 23 = .ok (.ifCond .ne 9, 3) := by decide +kernel
theorem dX11_liars_26 : decode cX11_liars 26 = .ok (.iload_n 1, 1) := by decide +kernel
theorem dX11_liars_27 : decode cX11_liars 27 = .ok (.iconst 1, 1) := by decide +kernel
theorem dX11_liars_28 : decode cX11_liars 28 = .ok (.iload_n 2, 1) := by decide +kernel
theorem dX11_liars_29 : decode cX11_liars 29 = .ok (.ishl, 1) := by decide +kernel
theorem dX11_liars_30 : decode cX11_liars 30 = .ok (.ior, 1) := by decide +kernel
theorem dX11_liars_31 : decode cX11_liars 31 = .ok (.istore_n 1, 1) := by decide +kernel
theorem dX11_liars_32 : decode cX11_liars 32 = .ok (.iinc 2 1, 3) := by decide +kernel
theorem dX11_liars_35 : decode cX11_liars 35 = .ok (.goto (-31), 3) := by decide +kernel
theorem dX11_liars_38 : decode cX11_liars 38 = .ok (.iload_n 1, 1) := by decide +kernel
theorem dX11_liars_39 : decode cX11_liars 39 = .ok (.ireturn, 1) := by decide +kernel
theorem dX11_leadsToWhatWasSeen_0 : decode cX11_leadsToWhatWasSeen 0 = .ok (.iload_n 2, 1) := by decide +kernel
theorem dX11_leadsToWhatWasSeen_1 : decode cX11_leadsToWhatWasSeen 1 = .ok (.istore_n 3, 1) := by decide +kernel
theorem dX11_leadsToWhatWasSeen_2 : decode cX11_leadsToWhatWasSeen 2 = .ok (.iconst 0, 1) := by decide +kernel
theorem dX11_leadsToWhatWasSeen_3 : decode cX11_leadsToWhatWasSeen 3 = .ok (.istore 4, 2) := by decide +kernel
theorem dX11_leadsToWhatWasSeen_5 : decode cX11_leadsToWhatWasSeen 5 = .ok (.iload 4, 2) := by decide +kernel
theorem dX11_leadsToWhatWasSeen_7 : decode cX11_leadsToWhatWasSeen 7 = .ok (.aload_n 0, 1) := by decide +kernel
theorem dX11_leadsToWhatWasSeen_8 : decode cX11_leadsToWhatWasSeen 8 = .ok (.getfield 69, 3) := by decide +kernel
theorem dX11_leadsToWhatWasSeen_11 : decode cX11_leadsToWhatWasSeen 11 = .ok (.iload_n 1, 1) := by decide +kernel
theorem dX11_leadsToWhatWasSeen_12 : decode cX11_leadsToWhatWasSeen 12 = .ok (.iaload, 1) := by decide +kernel
theorem dX11_leadsToWhatWasSeen_13 : decode cX11_leadsToWhatWasSeen 13 = .ok (.if_icmp .ge 24, 3) := by decide +kernel
theorem dX11_leadsToWhatWasSeen_16 : decode cX11_leadsToWhatWasSeen 16 = .ok (.aload_n 0, 1) := by decide +kernel
theorem dX11_leadsToWhatWasSeen_17 : decode cX11_leadsToWhatWasSeen 17 = .ok (.getfield 10, 3) := by decide +kernel
theorem dX11_leadsToWhatWasSeen_20 : decode cX11_leadsToWhatWasSeen 20 = .ok (.aload_n 0, 1) := by decide +kernel
theorem dX11_leadsToWhatWasSeen_21 : decode cX11_leadsToWhatWasSeen 21 = .ok (.getfield 62, 3) := by decide +kernel
theorem dX11_leadsToWhatWasSeen_24 : decode cX11_leadsToWhatWasSeen 24 = .ok (.iload_n 1, 1) := by decide +kernel
theorem dX11_leadsToWhatWasSeen_25 : decode cX11_leadsToWhatWasSeen 25 = .ok (.iaload, 1) := by decide +kernel
theorem dX11_leadsToWhatWasSeen_26 : decode cX11_leadsToWhatWasSeen 26 = .ok (.iload_n 3, 1) := by decide +kernel
theorem dX11_leadsToWhatWasSeen_27 : decode cX11_leadsToWhatWasSeen 27 = .ok (.invokevirtual 232, 3) := by decide +kernel
theorem dX11_leadsToWhatWasSeen_30 : decode cX11_leadsToWhatWasSeen 30 = .ok (.istore_n 3, 1) := by decide +kernel
theorem dX11_leadsToWhatWasSeen_31 : decode cX11_leadsToWhatWasSeen 31 = .ok (.iinc 4 1, 3) := by decide +kernel
theorem dX11_leadsToWhatWasSeen_34 : decode cX11_leadsToWhatWasSeen 34 = .ok (.goto (-29), 3) := by decide +kernel
theorem dX11_leadsToWhatWasSeen_37 : decode cX11_leadsToWhatWasSeen 37 = .ok (.iload_n 3, 1) := by decide +kernel
theorem dX11_leadsToWhatWasSeen_38 : decode cX11_leadsToWhatWasSeen 38 = .ok (.aload_n 0, 1) := by decide +kernel
theorem dX11_leadsToWhatWasSeen_39 : decode cX11_leadsToWhatWasSeen 39 = .ok (.getfield 72, 3) := by decide +kernel
theorem dX11_leadsToWhatWasSeen_42 : decode cX11_leadsToWhatWasSeen 42 = .ok (.iload_n 1, 1) := by decide +kernel
theorem dX11_leadsToWhatWasSeen_43 : decode cX11_leadsToWhatWasSeen 43 = .ok (.iaload, 1) := by decide +kernel
theorem dX11_leadsToWhatWasSeen_44 : decode cX11_leadsToWhatWasSeen 44 = .ok (.if_icmp .ne 7, 3) := by decide +kernel
theorem dX11_leadsToWhatWasSeen_47 : decode cX11_leadsToWhatWasSeen 47 = .ok (.iconst 1, 1) := by decide +kernel
theorem dX11_leadsToWhatWasSeen_48 : decode cX11_leadsToWhatWasSeen 48 = .ok (.goto 4, 3) := by decide +kernel
theorem dX11_leadsToWhatWasSeen_51 : decode cX11_leadsToWhatWasSeen 51 = .ok (.iconst 0, 1) := by decide +kernel
theorem dX11_leadsToWhatWasSeen_52 : decode cX11_leadsToWhatWasSeen 52 = .ok (.ireturn, 1) := by decide +kernel
theorem dX11_odds_0 : decode cX11_odds 0 = .ok (.aload_n 0, 1) := by decide +kernel
theorem dX11_odds_1 : decode cX11_odds 1 = .ok (.iload_n 1, 1) := by decide +kernel
theorem dX11_odds_2 : decode cX11_odds 2 = .ok (.invokevirtual 123, 3) := by decide +kernel
theorem dX11_odds_5 : decode cX11_odds 5 = .ok (.ifCond .eq 44, 3) := by decide +kernel
theorem dX11_odds_8 : decode cX11_odds 8 = .ok (.iload_n 2, 1) := by decide +kernel
theorem dX11_odds_9 : decode cX11_odds 9 = .ok (.iconst 0, 1) := by decide +kernel
theorem dX11_odds_10 : decode cX11_odds 10 = .ok (.bipush 100, 2) := by decide +kernel
theorem dX11_odds_12 : decode cX11_odds 12 = .ok (.invokestatic 144, 3) := by decide +kernel
theorem dX11_odds_15 : decode cX11_odds 15 = .ok (.ifCond .eq 34, 3) := by decide +kernel
theorem dX11_odds_18 : decode cX11_odds 18 = .ok (.iload_n 3, 1) := by decide +kernel
theorem dX11_odds_19 : decode cX11_odds 19 = .ok (.iconst 0, 1) := by decide +kernel
theorem dX11_odds_20 : decode cX11_odds 20 = .ok (.bipush 10, 2) := by decide +kernel
theorem dX11_odds_22 : decode cX11_odds 22 = .ok (.invokestatic 144, 3) := by decide +kernel
theorem dX11_odds_25 : decode cX11_odds 25 = .ok (.ifCond .eq 24, 3) := by decide +kernel
theorem dX11_odds_28 : decode cX11_odds 28 = .ok (.iload 4, 2) := by decide +kernel
theorem dX11_odds_30 : decode cX11_odds 30 = .ok (.iconst 0, 1) := by decide +kernel
theorem dX11_odds_31 : decode cX11_odds 31 = .ok (.bipush 9, 2) := by decide +kernel
theorem dX11_odds_33 : decode cX11_odds 33 = .ok (.invokestatic 144, 3) := by decide +kernel
theorem dX11_odds_36 : decode cX11_odds 36 = .ok (.ifCond .eq 13, 3) := by decide +kernel
theorem dX11_odds_39 : decode cX11_odds 39 = .ok (.iload 5, 2) := by decide +kernel
theorem dX11_odds_41 : decode cX11_odds 41 = .ok (.iconst 0, 1) := by decide +kernel
theorem dX11_odds_42 : decode cX11_odds 42 = .ok (.iconst 1, 1) := by decide +kernel
theorem dX11_odds_43 : decode cX11_odds 43 = .ok (.invokestatic 144, 3) := by decide +kernel
theorem dX11_odds_46 : decode cX11_odds 46 = .ok (.ifCond .ne 7, 3) := by decide +kernel
theorem dX11_odds_49 : decode cX11_odds 49 = .ok (.ldc2_w 236, 3) := by decide +kernel
theorem dX11_odds_52 : decode cX11_odds 52 = .ok (.lreturn, 1) := by decide +kernel
theorem dX11_odds_53 : decode cX11_odds 53 = .ok (.aload_n 0, 1) := by decide +kernel
theorem dX11_odds_54 : decode cX11_odds 54 = .ok (.iload_n 1, 1) := by decide +kernel
theorem dX11_odds_55 : decode cX11_odds 55 = .ok (.iload_n 2, 1) := by decide +kernel
theorem dX11_odds_56 : decode cX11_odds 56 = .ok (.iload_n 3, 1) := by decide +kernel
theorem dX11_odds_57 : decode cX11_odds 57 = .ok (.aload_n 0, 1) := by decide +kernel
theorem dX11_odds_58 : decode cX11_odds 58 = .ok (.getfield 29, 3) := by decide +kernel
theorem dX11_odds_61 : decode cX11_odds 61 = .ok (.getfield 126, 3) := by decide +kernel
theorem dX11_odds_64 : decode cX11_odds 64 = .ok (.iload_n 1, 1) := by decide +kernel
theorem dX11_odds_65 : decode cX11_odds 65 = .ok (.iaload, 1) := by decide +kernel
theorem dX11_odds_66 : decode cX11_odds 66 = .ok (.iload 4, 2) := by decide +kernel
theorem dX11_odds_68 : decode cX11_odds 68 = .ok (.invokevirtual 238, 3) := by decide +kernel
theorem dX11_odds_71 : decode cX11_odds 71 = .ok (.lstore 6, 2) := by decide +kernel
theorem dX11_odds_73 : decode cX11_odds 73 = .ok (.lconst 1, 1) := by decide +kernel
theorem dX11_odds_74 : decode cX11_odds 74 = .ok (.lstore 8, 2) := by decide +kernel
theorem dX11_odds_76 : decode cX11_odds 76 = .ok (.iconst 0, 1) := by decide +kernel
theorem dX11_odds_77 : decode cX11_odds 77 = .ok (.istore 10, 2) := by decide +kernel
theorem dX11_odds_79 : decode cX11_odds 79 = .ok (.iload 10, 2) := by decide +kernel
theorem dX11_odds_81 : decode cX11_odds 81 = .ok (.iload 4, 2) := by decide +kernel
theorem dX11_odds_83 : decode cX11_odds 83 = .ok (.if_icmp .ge 17, 3) := by decide +kernel
theorem dX11_odds_86 : decode cX11_odds 86 = .ok (.lload 8, 2) := by decide +kernel
theorem dX11_odds_88 : decode cX11_odds 88 = .ok (.ldc2_w 242, 3) := by decide +kernel
theorem dX11_odds_91 : decode cX11_odds 91 = .ok (.lmul, 1) := by decide +kernel
theorem dX11_odds_92 : decode cX11_odds 92 = .ok (.lstore 8, 2) := by decide +kernel
theorem dX11_odds_94 : decode cX11_odds 94 = .ok (.iinc 10 1, 3) := by decide +kernel
theorem dX11_odds_97 : decode cX11_odds 97 = .ok (.goto (-18), 3) := by decide +kernel
theorem dX11_odds_100 : decode cX11_odds 100 = .ok (.lload 6, 2) := by decide +kernel
theorem dX11_odds_102 : decode cX11_odds 102 = .ok (.lload 8, 2) := by decide +kernel
theorem dX11_odds_104 : decode cX11_odds 104 = .ok (.invokestatic 244, 3) := by decide +kernel
theorem dX11_odds_107 : decode cX11_odds 107 = .ok (.lstore 10, 2) := by decide +kernel
theorem dX11_odds_109 : decode cX11_odds 109 = .ok (.lload 10, 2) := by decide +kernel
theorem dX11_odds_111 : decode cX11_odds 111 = .ok (.lconst 0, 1) := by decide +kernel
theorem dX11_odds_112 : decode cX11_odds 112 = .ok (.lcmp, 1) := by decide +kernel
theorem dX11_odds_113 : decode cX11_odds 113 = .ok (.ifCond .ne 7, 3) := by decide +kernel
theorem dX11_odds_116 : decode cX11_odds 116 = .ok (.ldc2_w 236, 3) := by decide +kernel
theorem dX11_odds_119 : decode cX11_odds 119 = .ok (.lreturn, 1) := by decide +kernel
theorem dX11_odds_120 : decode cX11_odds 120 = .ok (.iload 5, 2) := by decide +kernel
theorem dX11_odds_122 : decode cX11_odds 122 = .ok (.ifCond .ne 8, 3) := by decide +kernel
theorem dX11_odds_125 : decode cX11_odds 125 = .ok (.lload 6, 2) := by decide +kernel
theorem dX11_odds_127 : decode cX11_odds 127 = .ok (.goto 5, 3) := by decide +kernel
theorem dX11_odds_130 : decode cX11_odds 130 = .ok (.lload 8, 2) := by decide +kernel
theorem dX11_odds_132 : decode cX11_odds 132 = .ok (.lload 10, 2) := by decide +kernel
theorem dX11_odds_134 : decode cX11_odds 134 = .ok (.ldiv, 1) := by decide +kernel
theorem dX11_odds_135 : decode cX11_odds 135 = .ok (.lreturn, 1) := by decide +kernel
theorem dX11_waysOfTen_0 : decode cX11_waysOfTen 0 = .ok (.iload 5, 2) := by decide +kernel
theorem dX11_waysOfTen_2 : decode cX11_waysOfTen 2 = .ok (.ifCond .gt 15, 3) := by decide +kernel
theorem dX11_waysOfTen_5 : decode cX11_waysOfTen 5 = .ok (.iload 4, 2) := by decide +kernel
theorem dX11_waysOfTen_7 : decode cX11_waysOfTen 7 = .ok (.iload_n 2, 1) := by decide +kernel
theorem dX11_waysOfTen_8 : decode cX11_waysOfTen 8 = .ok (.if_icmp .lt 7, 3) := by decide +kernel
theorem dX11_waysOfTen_11 : decode cX11_waysOfTen 11 = .ok (.lconst 1, 1) := by decide +kernel
theorem dX11_waysOfTen_12 : decode cX11_waysOfTen 12 = .ok (.goto 4, 3) := by decide +kernel
theorem dX11_waysOfTen_15 : decode cX11_waysOfTen 15 = .ok (.lconst 0, 1) := by decide +kernel
theorem dX11_waysOfTen_16 : decode cX11_waysOfTen 16 = .ok (.lreturn, 1) := by decide +kernel
theorem dX11_waysOfTen_17 : decode cX11_waysOfTen 17 = .ok (.iload_n 3, 1) := by decide +kernel
theorem dX11_waysOfTen_18 : decode cX11_waysOfTen 18 = .ok (.i2l, 1) := by decide +kernel
theorem dX11_waysOfTen_19 : decode cX11_waysOfTen 19 = .ok (.aload_n 0, 1) := by decide +kernel
theorem dX11_waysOfTen_20 : decode cX11_waysOfTen 20 = .ok (.iload_n 1, 1) := by decide +kernel
theorem dX11_waysOfTen_21 : decode cX11_waysOfTen 21 = .ok (.iload_n 2, 1) := by decide +kernel
theorem dX11_waysOfTen_22 : decode cX11_waysOfTen 22 = .ok (.iload_n 3, 1) := by decide +kernel
theorem dX11_waysOfTen_23 : decode cX11_waysOfTen 23 = .ok (.aload_n 0, 1) := by decide +kernel
theorem dX11_waysOfTen_24 : decode cX11_waysOfTen 24 = .ok (.getfield 10, 3) := by decide +kernel
theorem dX11_waysOfTen_27 : decode cX11_waysOfTen 27 = .ok (.iload_n 1, 1) := by decide +kernel
theorem dX11_waysOfTen_28 : decode cX11_waysOfTen 28 = .ok (.iload 4, 2) := by decide +kernel
theorem dX11_waysOfTen_30 : decode cX11_waysOfTen 30 = .ok (.invokevirtual 248, 3) := by decide +kernel
theorem dX11_waysOfTen_33 : decode cX11_waysOfTen 33 = .ok (.iload 5, 2) := by decide +kernel
theorem dX11_waysOfTen_35 : decode cX11_waysOfTen 35 = .ok (.iconst 1, 1) := by decide +kernel
theorem dX11_waysOfTen_36 : decode cX11_waysOfTen 36 = .ok (.isub, 1) := by decide +kernel
theorem dX11_waysOfTen_37 : decode cX11_waysOfTen 37 = .ok (.invokevirtual 238, 3) := by decide +kernel
theorem dX11_waysOfTen_40 : decode cX11_waysOfTen 40 = .ok (.lmul, 1) := by decide +kernel
theorem dX11_waysOfTen_41 : decode cX11_waysOfTen 41 = .ok (.bipush 10, 2) := by decide +kernel
theorem dX11_waysOfTen_43 : decode cX11_waysOfTen 43 = .ok (.iload_n 3, 1) := by decide +kernel
theorem dX11_waysOfTen_44 : decode cX11_waysOfTen 44 = .ok (.isub, 1) := by decide +kernel
theorem dX11_waysOfTen_45 : decode cX11_waysOfTen 45 = .ok (.i2l, 1) := by decide +kernel
theorem dX11_waysOfTen_46 : decode cX11_waysOfTen 46 = .ok (.aload_n 0, 1) := by decide +kernel
theorem dX11_waysOfTen_47 : decode cX11_waysOfTen 47 = .ok (.iload_n 1, 1) := by decide +kernel
theorem dX11_waysOfTen_48 : decode cX11_waysOfTen 48 = .ok (.iload_n 2, 1) := by decide +kernel
theorem dX11_waysOfTen_49 : decode cX11_waysOfTen 49 = .ok (.iload_n 3, 1) := by decide +kernel
theorem dX11_waysOfTen_50 : decode cX11_waysOfTen 50 = .ok (.aload_n 0, 1) := by decide +kernel
theorem dX11_waysOfTen_51 : decode cX11_waysOfTen 51 = .ok (.getfield 10, 3) := by decide +kernel
theorem dX11_waysOfTen_54 : decode cX11_waysOfTen 54 = .ok (.iload_n 1, 1) := by decide +kernel
theorem dX11_waysOfTen_55 : decode cX11_waysOfTen 55 = .ok (.iload 4, 2) := by decide +kernel
theorem dX11_waysOfTen_57 : decode cX11_waysOfTen 57 = .ok (.invokevirtual 232, 3) := by decide +kernel
theorem dX11_waysOfTen_60 : decode cX11_waysOfTen 60 = .ok (.iload 5, 2) := by decide +kernel
theorem dX11_waysOfTen_62 : decode cX11_waysOfTen 62 = .ok (.iconst 1, 1) := by decide +kernel
theorem dX11_waysOfTen_63 : decode cX11_waysOfTen 63 = .ok (.isub, 1) := by decide +kernel
theorem dX11_waysOfTen_64 : decode cX11_waysOfTen 64 = .ok (.invokevirtual 238, 3) := by decide +kernel
theorem dX11_waysOfTen_67 : decode cX11_waysOfTen 67 = .ok (.lmul, 1) := by decide +kernel
theorem dX11_waysOfTen_68 : decode cX11_waysOfTen 68 = .ok (.ladd, 1) := by decide +kernel
theorem dX11_waysOfTen_69 : decode cX11_waysOfTen 69 = .ok (.lreturn, 1) := by decide +kernel
theorem dX11_greatestDivisor_0 : decode cX11_greatestDivisor 0 = .ok (.lload_n 2, 1) := by decide +kernel
theorem dX11_greatestDivisor_1 : decode cX11_greatestDivisor 1 = .ok (.lstore 4, 2) := by decide +kernel
theorem dX11_greatestDivisor_3 : decode cX11_greatestDivisor 3 = .ok (.lload_n 0, 1) := by decide +kernel
theorem dX11_greatestDivisor_4 : decode cX11_greatestDivisor 4 = .ok (.lstore 6, 2) := by decide +kernel
theorem dX11_greatestDivisor_6 : decode cX11_greatestDivisor 6 = .ok (.iconst 0, 1) := by decide +kernel
theorem dX11_greatestDivisor_7 : decode cX11_greatestDivisor 7 = .ok (.istore 8, 2) := by decide +kernel
theorem dX11_greatestDivisor_9 : decode cX11_greatestDivisor 9 = .ok (.iload 8, 2) := by decide +kernel
theorem dX11_greatestDivisor_11 : decode cX11_greatestDivisor 11 = .ok (.bipush 100, 2) := by decide +kernel
theorem dX11_greatestDivisor_13 : decode cX11_greatestDivisor 13 = .ok (.if_icmp .ge 31, 3) := by decide +kernel
theorem dX11_greatestDivisor_16 : decode cX11_greatestDivisor 16 = .ok (.lload 6, 2) := by decide +kernel
theorem dX11_greatestDivisor_18 : decode cX11_greatestDivisor 18 = .ok (.lconst 0, 1) := by decide +kernel
theorem dX11_greatestDivisor_19 : decode cX11_greatestDivisor 19 = .ok (.lcmp, 1) := by decide +kernel
theorem dX11_greatestDivisor_20 : decode cX11_greatestDivisor 20 = .ok (.ifCond .eq 24, 3) := by decide +kernel
theorem dX11_greatestDivisor_23 : decode cX11_greatestDivisor 23 = .ok (.lload 4, 2) := by decide +kernel
theorem dX11_greatestDivisor_25 : decode cX11_greatestDivisor 25 = .ok (.lload 6, 2) := by decide +kernel
theorem dX11_greatestDivisor_27 : decode cX11_greatestDivisor 27 = .ok (.lrem, 1) := by decide +kernel
theorem dX11_greatestDivisor_28 : decode cX11_greatestDivisor 28 = .ok (.lstore 9, 2) := by decide +kernel
theorem dX11_greatestDivisor_30 : decode cX11_greatestDivisor 30 = .ok (.lload 6, 2) := by decide +kernel
theorem dX11_greatestDivisor_32 : decode cX11_greatestDivisor 32 = .ok (.lstore 4, 2) := by decide +kernel
theorem dX11_greatestDivisor_34 : decode cX11_greatestDivisor 34 = .ok (.lload 9, 2) := by decide +kernel
theorem dX11_greatestDivisor_36 : decode cX11_greatestDivisor 36 = .ok (.lstore 6, 2) := by decide +kernel
theorem dX11_greatestDivisor_38 : decode cX11_greatestDivisor 38 = .ok (.iinc 8 1, 3) := by decide +kernel
theorem dX11_greatestDivisor_41 : decode cX11_greatestDivisor 41 = .ok (.goto (-32), 3) := by decide +kernel
theorem dX11_greatestDivisor_44 : decode cX11_greatestDivisor 44 = .ok (.lload 4, 2) := by decide +kernel
theorem dX11_greatestDivisor_46 : decode cX11_greatestDivisor 46 = .ok (.lreturn, 1) := by decide +kernel
theorem dX11_rate_0 : decode cX11_rate 0 = .ok (.iload_n 1, 1) := by decide +kernel
theorem dX11_rate_1 : decode cX11_rate 1 = .ok (.iconst 0, 1) := by decide +kernel
theorem dX11_rate_2 : decode cX11_rate 2 = .ok (.iconst 5, 1) := by decide +kernel
theorem dX11_rate_3 : decode cX11_rate 3 = .ok (.invokestatic 144, 3) := by decide +kernel
theorem dX11_rate_6 : decode cX11_rate 6 = .ok (.ifCond .eq 11, 3) := by decide +kernel
theorem dX11_rate_9 : decode cX11_rate 9 = .ok (.aload_n 0, 1) := by decide +kernel
theorem dX11_rate_10 : decode cX11_rate 10 = .ok (.iload_n 2, 1) := by decide +kernel
theorem dX11_rate_11 : decode cX11_rate 11 = .ok (.invokevirtual 123, 3) := by decide +kernel
theorem dX11_rate_14 : decode cX11_rate 14 = .ok (.ifCond .ne 6, 3) := by decide +kernel
theorem dX11_rate_17 : decode cX11_rate 17 = .ok (.ldc 251, 2) := by decide +kernel
theorem dX11_rate_19 : decode cX11_rate 19 = .ok (.ireturn, 1) := by decide +kernel
theorem dX11_rate_20 : decode cX11_rate 20 = .ok (.aload_n 0, 1) := by decide +kernel
theorem dX11_rate_21 : decode cX11_rate 21 = .ok (.getfield 49, 3) := by decide +kernel
theorem dX11_rate_24 : decode cX11_rate 24 = .ok (.iload_n 1, 1) := by decide +kernel
theorem dX11_rate_25 : decode cX11_rate 25 = .ok (.aaload, 1) := by decide +kernel
theorem dX11_rate_26 : decode cX11_rate 26 = .ok (.astore_n 3, 1) := by decide +kernel
theorem dX11_rate_27 : decode cX11_rate 27 = .ok (.aload_n 3, 1) := by decide +kernel
theorem dX11_rate_28 : decode cX11_rate 28 = .ok (.ifnonnull 8, 3) := by decide +kernel
theorem dX11_rate_31 : decode cX11_rate 31 = .ok (.ldc 251, 2) := by decide +kernel
theorem dX11_rate_33 : decode cX11_rate 33 = .ok (.goto 9, 3) := by decide +kernel
theorem dX11_rate_36 : decode cX11_rate 36 = .ok (.aload_n 3, 1) := by decide +kernel
theorem dX11_rate_37 : decode cX11_rate 37 = .ok (.aload_n 0, 1) := by decide +kernel
theorem dX11_rate_38 : decode cX11_rate 38 = .ok (.iload_n 2, 1) := by decide +kernel
theorem dX11_rate_39 : decode cX11_rate 39 = .ok (.invokevirtual 252, 3) := by decide +kernel
theorem dX11_rate_42 : decode cX11_rate 42 = .ok (.ireturn, 1) := by decide +kernel
theorem dX11_keep_0 : decode cX11_keep 0 = .ok (.iload_n 1, 1) := by decide +kernel
theorem dX11_keep_1 : decode cX11_keep 1 = .ok (.iconst 0, 1) := by decide +kernel
theorem dX11_keep_2 : decode cX11_keep 2 = .ok (.iconst 1, 1) := by decide +kernel
theorem dX11_keep_3 : decode cX11_keep 3 = .ok (.invokestatic 144, 3) := by decide +kernel
theorem dX11_keep_6 : decode cX11_keep 6 = .ok (.ifCond .ne 5, 3) := by decide +kernel
theorem dX11_keep_9 : decode cX11_keep 9 = .ok (.iconst (-1), 1) := by decide +kernel
theorem dX11_keep_10 : decode cX11_keep 10 = .ok (.ireturn, 1) := by decide +kernel
theorem dX11_keep_11 : decode cX11_keep 11 = .ok (.aload_n 0, 1) := by decide +kernel
theorem dX11_keep_12 : decode cX11_keep 12 = .ok (.getfield 29, 3) := by decide +kernel
theorem dX11_keep_15 : decode cX11_keep 15 = .ok (.aload_n 0, 1) := by decide +kernel
theorem dX11_keep_16 : decode cX11_keep 16 = .ok (.getfield 55, 3) := by decide +kernel
theorem dX11_keep_19 : decode cX11_keep 19 = .ok (.iload_n 1, 1) := by decide +kernel
theorem dX11_keep_20 : decode cX11_keep 20 = .ok (.aaload, 1) := by decide +kernel
theorem dX11_keep_21 : decode cX11_keep 21 = .ok (.invokevirtual 256, 3) := by decide +kernel
theorem dX11_keep_24 : decode cX11_keep 24 = .ok (.aload_n 0, 1) := by decide +kernel
theorem dX11_keep_25 : decode cX11_keep 25 = .ok (.getfield 58, 3) := by decide +kernel
theorem dX11_keep_28 : decode cX11_keep 28 = .ok (.iload_n 1, 1) := by decide +kernel
theorem dX11_keep_29 : decode cX11_keep 29 = .ok (.iconst 1, 1) := by decide +kernel
theorem dX11_keep_30 : decode cX11_keep 30 = .ok (.bastore, 1) := by decide +kernel
theorem dX11_keep_31 : decode cX11_keep 31 = .ok (.aload_n 0, 1) := by decide +kernel
theorem dX11_keep_32 : decode cX11_keep 32 = .ok (.getfield 29, 3) := by decide +kernel
theorem dX11_keep_35 : decode cX11_keep 35 = .ok (.getfield 173, 3) := by decide +kernel
theorem dX11_keep_38 : decode cX11_keep 38 = .ok (.ireturn, 1) := by decide +kernel
theorem dX11_back_0 : decode cX11_back 0 = .ok (.iload_n 1, 1) := by decide +kernel
theorem dX11_back_1 : decode cX11_back 1 = .ok (.iconst 0, 1) := by decide +kernel
theorem dX11_back_2 : decode cX11_back 2 = .ok (.iconst 1, 1) := by decide +kernel
theorem dX11_back_3 : decode cX11_back 3 = .ok (.invokestatic 144, 3) := by decide +kernel
theorem dX11_back_6 : decode cX11_back 6 = .ok (.ifCond .ne 5, 3) := by decide +kernel
theorem dX11_back_9 : decode cX11_back 9 = .ok (.iconst (-1), 1) := by decide +kernel
theorem dX11_back_10 : decode cX11_back 10 = .ok (.ireturn, 1) := by decide +kernel
theorem dX11_back_11 : decode cX11_back 11 = .ok (.aload_n 0, 1) := by decide +kernel
theorem dX11_back_12 : decode cX11_back 12 = .ok (.getfield 58, 3) := by decide +kernel
theorem dX11_back_15 : decode cX11_back 15 = .ok (.iload_n 1, 1) := by decide +kernel
theorem dX11_back_16 : decode cX11_back 16 = .ok (.baload, 1) := by decide +kernel
theorem dX11_back_17 : decode cX11_back 17 = .ok (.ifCond .ne 6, 3) := by decide +kernel
theorem dX11_back_20 : decode cX11_back 20 = .ok (.bipush (-2), 2) := by decide +kernel
theorem dX11_back_22 : decode cX11_back 22 = .ok (.ireturn, 1) := by decide +kernel
theorem dX11_back_23 : decode cX11_back 23 = .ok (.aload_n 0, 1) := by decide +kernel
theorem dX11_back_24 : decode cX11_back 24 = .ok (.getfield 29, 3) := by decide +kernel
theorem dX11_back_27 : decode cX11_back 27 = .ok (.aload_n 0, 1) := by decide +kernel
theorem dX11_back_28 : decode cX11_back 28 = .ok (.getfield 55, 3) := by decide +kernel
theorem dX11_back_31 : decode cX11_back 31 = .ok (.iload_n 1, 1) := by decide +kernel
theorem dX11_back_32 : decode cX11_back 32 = .ok (.aaload, 1) := by decide +kernel
theorem dX11_back_33 : decode cX11_back 33 = .ok (.invokevirtual 260, 3) := by decide +kernel
theorem dX11_back_36 : decode cX11_back 36 = .ok (.aload_n 0, 1) := by decide +kernel
theorem dX11_back_37 : decode cX11_back 37 = .ok (.getfield 36, 3) := by decide +kernel
theorem dX11_back_40 : decode cX11_back 40 = .ok (.iconst 0, 1) := by decide +kernel
theorem dX11_back_41 : decode cX11_back 41 = .ok (.putfield 120, 3) := by decide +kernel
theorem dX11_back_44 : decode cX11_back 44 = .ok (.aload_n 0, 1) := by decide +kernel
theorem dX11_back_45 : decode cX11_back 45 = .ok (.getfield 29, 3) := by decide +kernel
theorem dX11_back_48 : decode cX11_back 48 = .ok (.getfield 173, 3) := by decide +kernel
theorem dX11_back_51 : decode cX11_back 51 = .ok (.ireturn, 1) := by decide +kernel
theorem dX11_count_0 : decode cX11_count 0 = .ok (.iload_n 1, 1) := by decide +kernel
theorem dX11_count_1 : decode cX11_count 1 = .ok (.tableswitch 84 0 5 #[39, 47, 55, 63, 71, 76], 39) := by decide +kernel
theorem dX11_count_40 : decode cX11_count 40 = .ok (.aload_n 0, 1) := by decide +kernel
theorem dX11_count_41 : decode cX11_count 41 = .ok (.getfield 10, 3) := by decide +kernel
theorem dX11_count_44 : decode cX11_count 44 = .ok (.getfield 179, 3) := by decide +kernel
theorem dX11_count_47 : decode cX11_count 47 = .ok (.ireturn, 1) := by decide +kernel
theorem dX11_count_48 : decode cX11_count 48 = .ok (.aload_n 0, 1) := by decide +kernel
theorem dX11_count_49 : decode cX11_count 49 = .ok (.getfield 10, 3) := by decide +kernel
theorem dX11_count_52 : decode cX11_count 52 = .ok (.getfield 263, 3) := by decide +kernel
theorem dX11_count_55 : decode cX11_count 55 = .ok (.ireturn, 1) := by decide +kernel
theorem dX11_count_56 : decode cX11_count 56 = .ok (.aload_n 0, 1) := by decide +kernel
theorem dX11_count_57 : decode cX11_count 57 = .ok (.getfield 10, 3) := by decide +kernel
theorem dX11_count_60 : decode cX11_count 60 = .ok (.getfield 141, 3) := by decide +kernel
theorem dX11_count_63 : decode cX11_count 63 = .ok (.ireturn, 1) := by decide +kernel
theorem dX11_count_64 : decode cX11_count 64 = .ok (.aload_n 0, 1) := by decide +kernel
theorem dX11_count_65 : decode cX11_count 65 = .ok (.getfield 10, 3) := by decide +kernel
theorem dX11_count_68 : decode cX11_count 68 = .ok (.getfield 266, 3) := by decide +kernel
theorem dX11_count_71 : decode cX11_count 71 = .ok (.ireturn, 1) := by decide +kernel
theorem dX11_count_72 : decode cX11_count 72 = .ok (.aload_n 0, 1) := by decide +kernel
theorem dX11_count_73 : decode cX11_count 73 = .ok (.getfield 75, 3) := by decide +kernel
theorem dX11_count_76 : decode cX11_count 76 = .ok (.ireturn, 1) := by decide +kernel
theorem dX11_count_77 : decode cX11_count 77 = .ok (.aload_n 0, 1) := by decide +kernel
theorem dX11_count_78 : decode cX11_count 78 = .ok (.getfield 22, 3) := by decide +kernel
theorem dX11_count_81 : decode cX11_count 81 = .ok (.getfield 103, 3) := by decide +kernel
theorem dX11_count_84 : decode cX11_count 84 = .ok (.ireturn, 1) := by decide +kernel
theorem dX11_count_85 : decode cX11_count 85 = .ok (.iconst (-1), 1) := by decide +kernel
theorem dX11_count_86 : decode cX11_count 86 = .ok (.ireturn, 1) := by decide +kernel
theorem dX11_trace_0 : decode cX11_trace 0 = .ok (.aload_n 0, 1) := by decide +kernel
theorem dX11_trace_1 : decode cX11_trace 1 = .ok (.getfield 79, 3) := by decide +kernel
theorem dX11_trace_4 : decode cX11_trace 4 = .ok (.lreturn, 1) := by decide +kernel
theorem dX11_isPhone_0 : decode cX11_isPhone 0 = .ok (.iload_n 1, 1) := by decide +kernel
theorem dX11_isPhone_1 : decode cX11_isPhone 1 = .ok (.iconst 0, 1) := by decide +kernel
theorem dX11_isPhone_2 : decode cX11_isPhone 2 = .ok (.aload_n 0, 1) := by decide +kernel
theorem dX11_isPhone_3 : decode cX11_isPhone 3 = .ok (.getfield 10, 3) := by decide +kernel
theorem dX11_isPhone_6 : decode cX11_isPhone 6 = .ok (.getfield 179, 3) := by decide +kernel
theorem dX11_isPhone_9 : decode cX11_isPhone 9 = .ok (.iconst 1, 1) := by decide +kernel
theorem dX11_isPhone_10 : decode cX11_isPhone 10 = .ok (.isub, 1) := by decide +kernel
theorem dX11_isPhone_11 : decode cX11_isPhone 11 = .ok (.invokestatic 144, 3) := by decide +kernel
theorem dX11_isPhone_14 : decode cX11_isPhone 14 = .ok (.ireturn, 1) := by decide +kernel
theorem dX11_isWithin_0 : decode cX11_isWithin 0 = .ok (.iload_n 0, 1) := by decide +kernel
theorem dX11_isWithin_1 : decode cX11_isWithin 1 = .ok (.iload_n 1, 1) := by decide +kernel
theorem dX11_isWithin_2 : decode cX11_isWithin 2 = .ok (.if_icmp .lt 12, 3) := by decide +kernel
theorem dX11_isWithin_5 : decode cX11_isWithin 5 = .ok (.iload_n 0, 1) := by decide +kernel
theorem dX11_isWithin_6 : decode cX11_isWithin 6 = .ok (.iload_n 2, 1) := by decide +kernel
theorem dX11_isWithin_7 : decode cX11_isWithin 7 = .ok (.if_icmp .gt 7, 3) := by decide +kernel
theorem dX11_isWithin_10 : decode cX11_isWithin 10 = .ok (.iconst 1, 1) := by decide +kernel
theorem dX11_isWithin_11 : decode cX11_isWithin 11 = .ok (.goto 4, 3) := by decide +kernel
theorem dX11_isWithin_14 : decode cX11_isWithin 14 = .ok (.iconst 0, 1) := by decide +kernel
theorem dX11_isWithin_15 : decode cX11_isWithin 15 = .ok (.ireturn, 1) := by decide +kernel
end
section
theorem dX12_init_0 : decode cX12_init 0 = .ok (.aload_n 0, 1) := by decide +kernel
theorem dX12_init_1 : decode cX12_init 1 = .ok (.invokespecial 1, 3) := by decide +kernel
theorem dX12_init_4 : decode cX12_init 4 = .ok (.aload_n 0, 1) := by decide +kernel
theorem dX12_init_5 : decode cX12_init 5 = .ok (.sipush 200, 3) := by decide +kernel
theorem dX12_init_8 : decode cX12_init 8 = .ok (.newarray .int, 2) := by decide +kernel
theorem dX12_init_10 : decode cX12_init 10 = .ok (.putfield 7, 3) := by decide +kernel
theorem dX12_init_13 : decode cX12_init 13 = .ok (.aload_n 0, 1) := by decide +kernel
theorem dX12_init_14 : decode cX12_init 14 = .ok (.bipush 30, 2) := by decide +kernel
theorem dX12_init_16 : decode cX12_init 16 = .ok (.newarray .int, 2) := by decide +kernel
theorem dX12_init_18 : decode cX12_init 18 = .ok (.putfield 13, 3) := by decide +kernel
theorem dX12_init_21 : decode cX12_init 21 = .ok (.aload_n 0, 1) := by decide +kernel
theorem dX12_init_22 : decode cX12_init 22 = .ok (.bipush 48, 2) := by decide +kernel
theorem dX12_init_24 : decode cX12_init 24 = .ok (.newarray .int, 2) := by decide +kernel
theorem dX12_init_26 : decode cX12_init 26 = .ok (.putfield 16, 3) := by decide +kernel
theorem dX12_init_29 : decode cX12_init 29 = .ok (.aload_n 0, 1) := by decide +kernel
theorem dX12_init_30 : decode cX12_init 30 = .ok (.bipush 8, 2) := by decide +kernel
theorem dX12_init_32 : decode cX12_init 32 = .ok (.newarray .int, 2) := by decide +kernel
theorem dX12_init_34 : decode cX12_init 34 = .ok (.putfield 19, 3) := by decide +kernel
theorem dX12_init_37 : decode cX12_init 37 = .ok (.aload_n 0, 1) := by decide +kernel
theorem dX12_init_38 : decode cX12_init 38 = .ok (.bipush 14, 2) := by decide +kernel
theorem dX12_init_40 : decode cX12_init 40 = .ok (.newarray .int, 2) := by decide +kernel
theorem dX12_init_42 : decode cX12_init 42 = .ok (.putfield 22, 3) := by decide +kernel
theorem dX12_init_45 : decode cX12_init 45 = .ok (.aload_n 0, 1) := by decide +kernel
theorem dX12_init_46 : decode cX12_init 46 = .ok (.bipush 14, 2) := by decide +kernel
theorem dX12_init_48 : decode cX12_init 48 = .ok (.newarray .int, 2) := by decide +kernel
theorem dX12_init_50 : decode cX12_init 50 = .ok (.putfield 25, 3) := by decide +kernel
theorem dX12_init_53 : decode cX12_init 53 = .ok (.aload_n 0, 1) := by decide +kernel
theorem dX12_init_54 : decode cX12_init 54 = .ok (.bipush 28, 2) := by decide +kernel
theorem dX12_init_56 : decode cX12_init 56 = .ok (.newarray .int, 2) := by decide +kernel
theorem dX12_init_58 : decode cX12_init 58 = .ok (.putfield 28, 3) := by decide +kernel
theorem dX12_init_61 : decode cX12_init 61 = .ok (.aload_n 0, 1) := by decide +kernel
theorem dX12_init_62 : decode cX12_init 62 = .ok (.iconst 2, 1) := by decide +kernel
theorem dX12_init_63 : decode cX12_init 63 = .ok (.newarray .boolean, 2) := by decide +kernel
theorem dX12_init_65 : decode cX12_init 65 = .ok (.putfield 31, 3) := by decide +kernel
theorem dX12_init_68 : decode cX12_init 68 = .ok (.aload_n 0, 1) := by decide +kernel
theorem dX12_init_69 : decode cX12_init 69 = .ok (.sipush 140, 3) := by decide +kernel
theorem dX12_init_72 : decode cX12_init 72 = .ok (.newarray .int, 2) := by decide +kernel
theorem dX12_init_74 : decode cX12_init 74 = .ok (.putfield 35, 3) := by decide +kernel
theorem dX12_init_77 : decode cX12_init 77 = .ok (.aload_n 0, 1) := by decide +kernel
theorem dX12_init_78 : decode cX12_init 78 = .ok (.bipush 24, 2) := by decide +kernel
theorem dX12_init_80 : decode cX12_init 80 = .ok (.newarray .int, 2) := by decide +kernel
theorem dX12_init_82 : decode cX12_init 82 = .ok (.putfield 38, 3) := by decide +kernel
theorem dX12_init_85 : decode cX12_init 85 = .ok (.aload_n 0, 1) := by decide +kernel
theorem dX12_init_86 : decode cX12_init 86 = .ok (.iconst 4, 1) := by decide +kernel
theorem dX12_init_87 : decode cX12_init 87 = .ok (.newarray .int, 2) := by decide +kernel
theorem dX12_init_89 : decode cX12_init 89 = .ok (.putfield 41, 3) := by decide +kernel
theorem dX12_init_92 : decode cX12_init 92 = .ok (.aload_n 0, 1) := by decide +kernel
theorem dX12_init_93 : decode cX12_init 93 = .ok (.iconst 4, 1) := by decide +kernel
theorem dX12_init_94 : decode cX12_init 94 = .ok (.newarray .int, 2) := by decide +kernel
theorem dX12_init_96 : decode cX12_init 96 = .ok (.putfield 44, 3) := by decide +kernel
theorem dX12_init_99 : decode cX12_init 99 = .ok (.aload_n 0, 1) := by decide +kernel
theorem dX12_init_100 : decode cX12_init 100 = .ok (.bipush 101, 2) := by decide +kernel
theorem dX12_init_102 : decode cX12_init 102 = .ok (.newarray .long, 2) := by decide +kernel
theorem dX12_init_104 : decode cX12_init 104 = .ok (.putfield 47, 3) := by decide +kernel
theorem dX12_init_107 : decode cX12_init 107 = .ok (.aload_n 0, 1) := by decide +kernel
theorem dX12_init_108 : decode cX12_init 108 = .ok (.bipush 101, 2) := by decide +kernel
theorem dX12_init_110 : decode cX12_init 110 = .ok (.newarray .long, 2) := by decide +kernel
theorem dX12_init_112 : decode cX12_init 112 = .ok (.putfield 51, 3) := by decide +kernel
theorem dX12_init_115 : decode cX12_init 115 = .ok (.aload_n 0, 1) := by decide +kernel
theorem dX12_init_116 : decode cX12_init 116 = .ok (.bipush 16, 2) := by decide +kernel
theorem dX12_init_118 : decode cX12_init 118 = .ok (.newarray .int, 2) := by decide +kernel
theorem dX12_init_120 : decode cX12_init 120 = .ok (.putfield 54, 3) := by decide +kernel
theorem dX12_init_123 : decode cX12_init 123 = .ok (.aload_n 0, 1) := by decide +kernel
theorem dX12_init_124 : decode cX12_init 124 = .ok (.iconst 1, 1) := by decide +kernel
theorem dX12_init_125 : decode cX12_init 125 = .ok (.putfield 57, 3) := by decide +kernel
theorem dX12_init_128 : decode cX12_init 128 = .ok (.return_, 1) := by decide +kernel
theorem dX12_in_0 : decode cX12_in 0 = .ok (.iload_n 0, 1) := by decide +kernel
theorem dX12_in_1 : decode cX12_in 1 = .ok (.iload_n 1, 1) := by decide +kernel
theorem dX12_in_2 : decode cX12_in 2 = .ok (.if_icmp .lt 12, 3) := by decide +kernel
theorem dX12_in_5 : decode cX12_in 5 = .ok (.iload_n 0, 1) := by decide +kernel
theorem dX12_in_6 : decode cX12_in 6 = .ok (.iload_n 2, 1) := by decide +kernel
theorem dX12_in_7 : decode cX12_in 7 = .ok (.if_icmp .gt 7, 3) := by decide +kernel
theorem dX12_in_10 : decode cX12_in 10 = .ok (.iconst 1, 1) := by decide +kernel
theorem dX12_in_11 : decode cX12_in 11 = .ok (.goto 4, 3) := by decide +kernel
theorem dX12_in_14 : decode cX12_in 14 = .ok (.iconst 0, 1) := by decide +kernel
theorem dX12_in_15 : decode cX12_in 15 = .ok (.ireturn, 1) := by decide +kernel
theorem dX12_ones_0 : decode cX12_ones 0 = .ok (.iconst 0, 1) := by decide +kernel
theorem dX12_ones_1 : decode cX12_ones 1 = .ok (.istore_n 1, 1) := by decide +kernel
theorem dX12_ones_2 : decode cX12_ones 2 = .ok (.iconst 0, 1) := by decide +kernel
theorem dX12_ones_3 : decode cX12_ones 3 = .ok (.istore_n 2, 1) := by decide +kernel
theorem dX12_ones_4 : decode cX12_ones 4 = .ok (.iload_n 2, 1) := by decide +kernel
theorem dX12_ones_5 : decode cX12_ones 5 = .ok (.iconst 5, 1) := by decide +kernel
theorem dX12_ones_6 : decode cX12_ones 6 = .ok (.if_icmp .ge 17, 3) := by decide +kernel
theorem dX12_ones_9 : decode cX12_ones 9 = .ok (.iload_n 1, 1) := by decide +kernel
theorem dX12_ones_10 : decode cX12_ones 10 = .ok (.iload_n 0, 1) := by decide +kernel
theorem dX12_ones_11 : decode cX12_ones 11 = .ok (.iload_n 2, 1) := by decide +kernel
theorem dX12_ones_12 : decode cX12_ones 12 = .ok (.ishr, 1) := by decide +kernel
theorem dX12_ones_13 : decode cX12_ones 13 = .ok (.iconst 1, 1) := by decide +kernel
theorem dX12_ones_14 : decode cX12_ones 14 = .ok (.iand, 1) := by decide +kernel
theorem dX12_ones_15 : decode cX12_ones 15 = .ok (.iadd, 1) := by decide +kernel
theorem dX12_ones_16 : decode cX12_ones 16 = .ok (.istore_n 1, 1) := by decide +kernel
theorem dX12_ones_17 : decode cX12_ones 17 = .ok (.iinc 2 1, 3) := by decide +kernel
theorem dX12_ones_20 : decode cX12_ones 20 = .ok (.goto (-16), 3) := by decide +kernel
theorem dX12_ones_23 : decode cX12_ones 23 = .ok (.iload_n 1, 1) := by decide +kernel
theorem dX12_ones_24 : decode cX12_ones 24 = .ok (.ireturn, 1) := by decide +kernel
theorem dX12_type_0 : decode cX12_type 0 = .ok (.aload_n 0, 1) := by decide +kernel
theorem dX12_type_1 : decode cX12_type 1 = .ok (.iconst 0, 1) := by decide +kernel
theorem dX12_type_2 : decode cX12_type 2 = .ok (.putfield 61, 3) := by decide +kernel
theorem dX12_type_5 : decode cX12_type 5 = .ok (.iload_n 1, 1) := by decide +kernel
theorem dX12_type_6 : decode cX12_type 6 = .ok (.iconst 0, 1) := by decide +kernel
theorem dX12_type_7 : decode cX12_type 7 = .ok (.sipush 255, 3) := by decide +kernel
theorem dX12_type_10 : decode cX12_type 10 = .ok (.invokestatic 64, 3) := by decide +kernel
theorem dX12_type_13 : decode cX12_type 13 = .ok (.ifCond .ne 5, 3) := by decide +kernel
theorem dX12_type_16 : decode cX12_type 16 = .ok (.iconst (-1), 1) := by decide +kernel
theorem dX12_type_17 : decode cX12_type 17 = .ok (.ireturn, 1) := by decide +kernel
theorem dX12_type_18 : decode cX12_type 18 = .ok (.aload_n 0, 1) := by decide +kernel
theorem dX12_type_19 : decode cX12_type 19 = .ok (.getfield 68, 3) := by decide +kernel
theorem dX12_type_22 : decode cX12_type 22 = .ok (.sipush 200, 3) := by decide +kernel
theorem dX12_type_25 : decode cX12_type 25 = .ok (.if_icmp .ne 6, 3) := by decide +kernel
theorem dX12_type_28 : decode cX12_type 28 = .ok (.bipush (-3), 2) := by decide +kernel
theorem dX12_type_30 : decode cX12_type 30 = .ok (.ireturn, 1) := by decide +kernel
theorem dX12_type_31 : decode cX12_type 31 = .ok (.aload_n 0, 1) := by decide +kernel
theorem dX12_type_32 : decode cX12_type 32 = .ok (.getfield 7, 3) := by decide +kernel
theorem dX12_type_35 : decode cX12_type 35 = .ok (.aload_n 0, 1) := by decide +kernel
theorem dX12_type_36 : decode cX12_type 36 = .ok (.getfield 68, 3) := by decide +kernel
theorem dX12_type_39 : decode cX12_type 39 = .ok (.iload_n 1, 1) := by decide +kernel
theorem dX12_type_40 : decode cX12_type 40 = .ok (.iastore, 1) := by decide +kernel
theorem dX12_type_41 : decode cX12_type 41 = .ok (.aload_n 0, 1) := by decide +kernel
theorem dX12_type_42 : decode cX12_type 42 = .ok (.dup, 1) := by decide +kernel
theorem dX12_type_43 : decode cX12_type 43 = .ok (.getfield 68, 3) := by decide +kernel
theorem dX12_type_46 : decode cX12_type 46 = .ok (.iconst 1, 1) := by decide +kernel
theorem dX12_type_47 : decode cX12_type 47 = .ok (.iadd, 1) := by decide +kernel
theorem dX12_type_48 : decode cX12_type 48 = .ok (.putfield 68, 3) := by decide +kernel
theorem dX12_type_51 : decode cX12_type 51 = .ok (.aload_n 0, 1) := by decide +kernel
theorem dX12_type_52 : decode cX12_type 52 = .ok (.getfield 68, 3) := by decide +kernel
theorem dX12_type_55 : decode cX12_type 55 = .ok (.ireturn, 1) := by decide +kernel
theorem dX12_clear_0 : decode cX12_clear 0 = .ok (.aload_n 0, 1) := by decide +kernel
theorem dX12_clear_1 : decode cX12_clear 1 = .ok (.iconst 0, 1) := by decide +kernel
theorem dX12_clear_2 : decode cX12_clear 2 = .ok (.putfield 61, 3) := by decide +kernel
theorem dX12_clear_5 : decode cX12_clear 5 = .ok (.aload_n 0, 1) := by decide +kernel
theorem dX12_clear_6 : decode cX12_clear 6 = .ok (.getfield 68, 3) := by decide +kernel
theorem dX12_clear_9 : decode cX12_clear 9 = .ok (.istore_n 1, 1) := by decide +kernel
theorem dX12_clear_10 : decode cX12_clear 10 = .ok (.aload_n 0, 1) := by decide +kernel
theorem dX12_clear_11 : decode cX12_clear 11 = .ok (.iconst 0, 1) := by decide +kernel
theorem dX12_clear_12 : decode cX12_clear 12 = .ok (.putfield 68, 3) := by decide +kernel
theorem dX12_clear_15 : decode cX12_clear 15 = .ok (.iload_n 1, 1) := by decide +kernel
theorem dX12_clear_16 : decode cX12_clear 16 = .ok (.ireturn, 1) := by decide +kernel
theorem dX12_letterAt_0 : decode cX12_letterAt 0 = .ok (.iload_n 1, 1) := by decide +kernel
theorem dX12_letterAt_1 : decode cX12_letterAt 1 = .ok (.aload_n 0, 1) := by decide +kernel
theorem dX12_letterAt_2 : decode cX12_letterAt 2 = .ok (.getfield 68, 3) := by decide +kernel
theorem dX12_letterAt_5 : decode cX12_letterAt 5 = .ok (.if_icmp .ge 12, 3) := by decide +kernel
theorem dX12_letterAt_8 : decode cX12_letterAt 8 = .ok (.aload_n 0, 1) := by decide +kernel
theorem dX12_letterAt_9 : decode cX12_letterAt 9 = .ok (.getfield 7, 3) := by decide +kernel
theorem dX12_letterAt_12 : decode cX12_letterAt 12 = .ok (.iload_n 1, 1) := by decide +kernel
theorem dX12_letterAt_13 : decode cX12_letterAt 13 = .ok (.iaload, 1) := by decide +kernel
theorem dX12_letterAt_14 : decode cX12_letterAt 14 = .ok (.goto 4, 3) := by decide +kernel
theorem dX12_letterAt_17 : decode cX12_letterAt 17 = .ok (.iconst (-1), 1) := by decide +kernel
theorem dX12_letterAt_18 : decode cX12_letterAt 18 = .ok (.ireturn, 1) := by decide +kernel
theorem dX12_advances_0 : decode cX12_advances 0 = .ok (.aload_n 0, 1) := by decide +kernel
theorem dX12_advances_1 : decode cX12_advances 1 = .ok (.aload_n 0, 1) := by decide +kernel
theorem dX12_advances_2 : decode cX12_advances 2 = .ok (.getfield 71, 3) := by decide +kernel
theorem dX12_advances_5 : decode cX12_advances 5 = .ok (.invokevirtual 74, 3) := by decide +kernel
theorem dX12_advances_8 : decode cX12_advances 8 = .ok (.bipush 32, 2) := by decide +kernel
theorem dX12_advances_10 : decode cX12_advances 10 = .ok (.if_icmp .ne 16, 3) := by decide +kernel
theorem dX12_advances_13 : decode cX12_advances 13 = .ok (.aload_n 0, 1) := by decide +kernel
theorem dX12_advances_14 : decode cX12_advances 14 = .ok (.dup, 1) := by decide +kernel
theorem dX12_advances_15 : decode cX12_advances 15 = .ok (.getfield 71, 3) := by decide +kernel
theorem dX12_advances_18 : decode cX12_advances 18 = .ok (.iconst 1, 1) := by decide +kernel
theorem dX12_advances_19 : decode cX12_advances 19 = .ok (.iadd, 1) := by decide +kernel
theorem dX12_advances_20 : decode cX12_advances 20 = .ok (.putfield 71, 3) := by decide +kernel
theorem dX12_advances_23 : decode cX12_advances 23 = .ok (.goto (-23), 3) := by decide +kernel
theorem dX12_advances_26 : decode cX12_advances 26 = .ok (.aload_n 0, 1) := by decide +kernel
theorem dX12_advances_27 : decode cX12_advances 27 = .ok (.aload_n 0, 1) := by decide +kernel
theorem dX12_advances_28 : decode cX12_advances 28 = .ok (.getfield 71, 3) := by decide +kernel
theorem dX12_advances_31 : decode cX12_advances 31 = .ok (.putfield 78, 3) := by decide +kernel
theorem dX12_advances_34 : decode cX12_advances 34 = .ok (.aload_n 0, 1) := by decide +kernel
theorem dX12_advances_35 : decode cX12_advances 35 = .ok (.aload_n 0, 1) := by decide +kernel
theorem dX12_advances_36 : decode cX12_advances 36 = .ok (.getfield 71, 3) := by decide +kernel
theorem dX12_advances_39 : decode cX12_advances 39 = .ok (.invokevirtual 74, 3) := by decide +kernel
theorem dX12_advances_42 : decode cX12_advances 42 = .ok (.istore_n 1, 1) := by decide +kernel
theorem dX12_advances_43 : decode cX12_advances 43 = .ok (.iload_n 1, 1) := by decide +kernel
theorem dX12_advances_44 : decode cX12_advances 44 = .ok (.ifCond .ge 11, 3) := by decide +kernel
theorem dX12_advances_47 : decode cX12_advances 47 = .ok (.aload_n 0, 1) := by decide +kernel
theorem dX12_advances_48 : decode cX12_advances 48 = .ok (.iconst 0, 1) := by decide +kernel
theorem dX12_advances_49 : decode cX12_advances 49 = .ok (.putfield 81, 3) := by decide +kernel
theorem dX12_advances_52 : decode cX12_advances 52 = .ok (.goto 187, 3) := by decide +kernel
theorem dX12_advances_55 : decode cX12_advances 55 = .ok (.iload_n 1, 1) := by decide +kernel
theorem dX12_advances_56 : decode cX12_advances 56 = .ok (.bipush 48, 2) := by decide +kernel
theorem dX12_advances_58 : decode cX12_advances 58 = .ok (.bipush 57, 2) := by decide +kernel
theorem dX12_advances_60 : decode cX12_advances 60 = .ok (.invokestatic 64, 3) := by decide +kernel
theorem dX12_advances_63 : decode cX12_advances 63 = .ok (.ifCond .eq 118, 3) := by decide +kernel
theorem dX12_advances_66 : decode cX12_advances 66 = .ok (.aload_n 0, 1) := by decide +kernel
theorem dX12_advances_67 : decode cX12_advances 67 = .ok (.iconst 0, 1) := by decide +kernel
theorem dX12_advances_68 : decode cX12_advances 68 = .ok (.putfield 84, 3) := by decide +kernel
theorem dX12_advances_71 : decode cX12_advances 71 = .ok (.aload_n 0, 1) := by decide +kernel
theorem dX12_advances_72 : decode cX12_advances 72 = .ok (.aload_n 0, 1) := by decide +kernel
theorem dX12_advances_73 : decode cX12_advances 73 = .ok (.getfield 71, 3) := by decide +kernel
theorem dX12_advances_76 : decode cX12_advances 76 = .ok (.invokevirtual 74, 3) := by decide +kernel
theorem dX12_advances_79 : decode cX12_advances 79 = .ok (.bipush 48, 2) := by decide +kernel
theorem dX12_advances_81 : decode cX12_advances 81 = .ok (.bipush 57, 2) := by decide +kernel
theorem dX12_advances_83 : decode cX12_advances 83 = .ok (.invokestatic 64, 3) := by decide +kernel
theorem dX12_advances_86 : decode cX12_advances 86 = .ok (.ifCond .eq 55, 3) := by decide +kernel
theorem dX12_advances_89 : decode cX12_advances 89 = .ok (.aload_n 0, 1) := by decide +kernel
theorem dX12_advances_90 : decode cX12_advances 90 = .ok (.aload_n 0, 1) := by decide +kernel
theorem dX12_advances_91 : decode cX12_advances 91 = .ok (.getfield 84, 3) := by decide +kernel
theorem dX12_advances_94 : decode cX12_advances 94 = .ok (.bipush 100, 2) := by decide +kernel
theorem dX12_advances_96 : decode cX12_advances 96 = .ok (.if_icmp .le 10, 3) := by decide +kernel
theorem dX12_advances_99 : decode cX12_advances 99 = .ok (.aload_n 0, 1) := by decide +kernel
theorem dX12_advances_100 : decode cX12_advances 100 = .ok (.getfield 84, 3) := by decide +kernel
theorem dX12_advances_103 : decode cX12_advances 103 = .ok (.goto 22, 3) := by decide +kernel
theorem dX12_advances_106 : decode cX12_advances 106 = .ok (.bipush 10, 2) := by decide +kernel
theorem dX12_advances_108 : decode cX12_advances 108 = .ok (.aload_n 0, 1) := by decide +kernel
theorem dX12_advances_109 : decode cX12_advances 109 = .ok (.getfield 84, 3) := by decide +kernel
theorem dX12_advances_112 : decode cX12_advances 112 = .ok (.imul, 1) := by decide +kernel
theorem dX12_advances_113 : decode cX12_advances 113 = .ok (.aload_n 0, 1) := by decide +kernel
theorem dX12_advances_114 : decode cX12_advances 114 = .ok (.aload_n 0, 1) := by decide +kernel
theorem dX12_advances_115 : decode cX12_advances 115 = .ok (.getfield 71, 3) := by decide +kernel
theorem dX12_advances_118 : decode cX12_advances 118 = .ok (.invokevirtual 74, 3) := by decide +kernel
theorem dX12_advances_121 : decode cX12_advances 121 = .ok (.iadd, 1) := by decide +kernel
theorem dX12_advances_122 : decode cX12_advances 122 = .ok (.bipush 48, 2) := by decide +kernel
theorem dX12_advances_124 : decode cX12_advances 124 = .ok (.isub, 1) := by decide +kernel
theorem dX12_advances_125 : decode cX12_advances 125 = .ok (.putfield 84, 3) := by decide +kernel
theorem dX12_advances_128 : decode cX12_advances 128 = .ok (.aload_n 0, 1) := by decide +kernel
theorem dX12_advances_129 : decode cX12_advances 129 = .ok (.dup, 1) := by decide +kernel
theorem dX12_advances_130 : decode cX12_advances 130 = .ok (.getfield 71, 3) := by decide +kernel
theorem dX12_advances_133 : decode cX12_advances 133 = .ok (.iconst 1, 1) := by decide +kernel
theorem dX12_advances_134 : decode cX12_advances 134 = .ok (.iadd, 1) := by decide +kernel
theorem dX12_advances_135 : decode cX12_advances 135 = .ok (.putfield 71, 3) := by decide +kernel
theorem dX12_advances_138 : decode cX12_advances 138 = .ok (.goto (-67), 3) := by decide +kernel
theorem dX12_advances_141 : decode cX12_advances 141 = .ok (.aload_n 0, 1) := by decide +kernel
theorem dX12_advances_142 : decode cX12_advances 142 = .ok (.aload_n 0, 1) := by decide +kernel
theorem dX12_advances_143 : decode cX12_advances 143 = .ok (.getfield 84, 3) := by decide +kernel
theorem dX12_advances_146 : decode cX12_advances 146 = .ok (.bipush 100, 2) := by decide +kernel
theorem dX12_advances_148 : decode cX12_advances 148 = .ok (.if_icmp .gt 22, 3) := by decide +kernel
theorem dX12_advances_151 : decode cX12_advances 151 = .ok (.iload_n 1, 1) := by decide +kernel
theorem dX12_advances_152 : decode cX12_advances 152 = .ok (.bipush 48, 2) := by decide +kernel
theorem dX12_advances_154 : decode cX12_advances 154 = .ok (.if_icmp .ne 20, 3) := by decide +kernel
theorem dX12_advances_157 : decode cX12_advances 157 = .ok (.aload_n 0, 1) := by decide +kernel
theorem dX12_advances_158 : decode cX12_advances 158 = .ok (.getfield 71, 3) := by decide +kernel
theorem dX12_advances_161 : decode cX12_advances 161 = .ok (.aload_n 0, 1) := by decide +kernel
theorem dX12_advances_162 : decode cX12_advances 162 = .ok (.getfield 78, 3) := by decide +kernel
theorem dX12_advances_165 : decode cX12_advances 165 = .ok (.isub, 1) := by decide +kernel
theorem dX12_advances_166 : decode cX12_advances 166 = .ok (.iconst 1, 1) := by decide +kernel
theorem dX12_advances_167 : decode cX12_advances 167 = .ok (.if_icmp .le 7, 3) := by decide +kernel
theorem dX12_advances_170 : decode cX12_advances 170 = .ok (.iconst 4, 1) := by decide +kernel
theorem dX12_advances_171 : decode cX12_advances 171 = .ok (.goto 4, 3) := by decide +kernel
theorem dX12_advances_174 : decode cX12_advances 174 = .ok (.iconst 2, 1) := by decide +kernel
theorem dX12_advances_175 : decode cX12_advances 175 = .ok (.putfield 81, 3) := by decide +kernel
theorem dX12_advances_178 : decode cX12_advances 178 = .ok (.goto 61, 3) := by decide +kernel
theorem dX12_advances_181 : decode cX12_advances 181 = .ok (.aload_n 0, 1) := by decide +kernel
theorem dX12_advances_182 : decode cX12_advances 182 = .ok (.dup, 1) := by decide +kernel
theorem dX12_advances_183 : decode cX12_advances 183 = .ok (.getfield 71, 3) := by decide +kernel
theorem dX12_advances_186 : decode cX12_advances 186 = .ok (.iconst 1, 1) := by decide +kernel
theorem dX12_advances_187 : decode cX12_advances 187 = .ok (.iadd, 1) := by decide +kernel
theorem dX12_advances_188 : decode cX12_advances 188 = .ok (.putfield 71, 3) := by decide +kernel
theorem dX12_advances_191 : decode cX12_advances 191 = .ok (.aload_n 0, 1) := by decide +kernel
theorem dX12_advances_192 : decode cX12_advances 192 = .ok (.iload_n 1, 1) := by decide +kernel
theorem dX12_advances_193 : decode cX12_advances 193 = .ok (.putfield 84, 3) := by decide +kernel
theorem dX12_advances_196 : decode cX12_advances 196 = .ok (.aload_n 0, 1) := by decide +kernel
theorem dX12_advances_197 : decode cX12_advances 197 = .ok (.iload_n 1, 1) := by decide +kernel
theorem dX12_advances_198 : decode cX12_advances 198 = .ok (.bipush 59, 2) := by decide +kernel
theorem dX12_advances_200 : decode cX12_advances 200 = .ok (.if_icmp .ne 7, 3) := by decide +kernel
theorem dX12_advances_203 : decode cX12_advances 203 = .ok (.iconst 3, 1) := by decide +kernel
theorem dX12_advances_204 : decode cX12_advances 204 = .ok (.goto 32, 3) := by decide +kernel
theorem dX12_advances_207 : decode cX12_advances 207 = .ok (.iload_n 1, 1) := by decide +kernel
theorem dX12_advances_208 : decode cX12_advances 208 = .ok (.bipush 116, 2) := by decide +kernel
theorem dX12_advances_210 : decode cX12_advances 210 = .ok (.if_icmp .eq 21, 3) := by decide +kernel
theorem dX12_advances_213 : decode cX12_advances 213 = .ok (.iload_n 1, 1) := by decide +kernel
theorem dX12_advances_214 : decode cX12_advances 214 = .ok (.bipush 104, 2) := by decide +kernel
theorem dX12_advances_216 : decode cX12_advances 216 = .ok (.if_icmp .eq 15, 3) := by decide +kernel
theorem dX12_advances_219 : decode cX12_advances 219 = .ok (.iload_n 1, 1) := by decide +kernel
theorem dX12_advances_220 : decode cX12_advances 220 = .ok (.bipush 99, 2) := by decide +kernel
theorem dX12_advances_222 : decode cX12_advances 222 = .ok (.if_icmp .eq 9, 3) := by decide +kernel
theorem dX12_advances_225 : decode cX12_advances 225 = .ok (.iload_n 1, 1) := by decide +kernel
theorem dX12_advances_226 : decode cX12_advances 226 = .ok (.bipush 100, 2) := by decide +kernel
theorem dX12_advances_228 : decode cX12_advances 228 = .ok (.if_icmp .ne 7, 3) := by decide +kernel
theorem dX12_advances_231 : decode cX12_advances 231 = .ok (.iconst 1, 1) := by decide +kernel
theorem dX12_advances_232 : decode cX12_advances 232 = .ok (.goto 4, 3) := by decide +kernel
theorem dX12_advances_235 : decode cX12_advances 235 = .ok (.iconst 4, 1) := by decide +kernel
theorem dX12_advances_236 : decode cX12_advances 236 = .ok (.putfield 81, 3) := by decide +kernel
theorem dX12_advances_239 : decode cX12_advances 239 = .ok (.return_, 1) := by decide +kernel
theorem dX12_isWell_0 : decode cX12_isWell 0 = .ok (.aload_n 0, 1) := by decide +kernel
theorem dX12_isWell_1 : decode cX12_isWell 1 = .ok (.getfield 87, 3) := by decide +kernel
theorem dX12_isWell_4 : decode cX12_isWell 4 = .ok (.ifCond .ge 7, 3) := by decide +kernel
theorem dX12_isWell_7 : decode cX12_isWell 7 = .ok (.iconst 1, 1) := by decide +kernel
theorem dX12_isWell_8 : decode cX12_isWell 8 = .ok (.goto 4, 3) := by decide +kernel
theorem dX12_isWell_11 : decode cX12_isWell 11 = .ok (.iconst 0, 1) := by decide +kernel
theorem dX12_isWell_12 : decode cX12_isWell 12 = .ok (.ireturn, 1) := by decide +kernel
theorem dX12_takes_0 : decode cX12_takes 0 = .ok (.aload_n 0, 1) := by decide +kernel
theorem dX12_takes_1 : decode cX12_takes 1 = .ok (.invokevirtual 90, 3) := by decide +kernel
theorem dX12_takes_4 : decode cX12_takes 4 = .ok (.ifCond .ne 5, 3) := by decide +kernel
theorem dX12_takes_7 : decode cX12_takes 7 = .ok (.iconst 0, 1) := by decide +kernel
theorem dX12_takes_8 : decode cX12_takes 8 = .ok (.ireturn, 1) := by decide +kernel
theorem dX12_takes_9 : decode cX12_takes 9 = .ok (.iload_n 1, 1) := by decide +kernel
theorem dX12_takes_10 : decode cX12_takes 10 = .ok (.ifCond .ne 13, 3) := by decide +kernel
theorem dX12_takes_13 : decode cX12_takes 13 = .ok (.aload_n 0, 1) := by decide +kernel
theorem dX12_takes_14 : decode cX12_takes 14 = .ok (.aload_n 0, 1) := by decide +kernel
theorem dX12_takes_15 : decode cX12_takes 15 = .ok (.getfield 78, 3) := by decide +kernel
theorem dX12_takes_18 : decode cX12_takes 18 = .ok (.putfield 87, 3) := by decide +kernel
theorem dX12_takes_21 : decode cX12_takes 21 = .ok (.iconst 0, 1) := by decide +kernel
theorem dX12_takes_22 : decode cX12_takes 22 = .ok (.ireturn, 1) := by decide +kernel
theorem dX12_takes_23 : decode cX12_takes 23 = .ok (.aload_n 0, 1) := by decide +kernel
theorem dX12_takes_24 : decode cX12_takes 24 = .ok (.getfield 84, 3) := by decide +kernel
theorem dX12_takes_27 : decode cX12_takes 27 = .ok (.istore_n 2, 1) := by decide +kernel
theorem dX12_takes_28 : decode cX12_takes 28 = .ok (.aload_n 0, 1) := by decide +kernel
theorem dX12_takes_29 : decode cX12_takes 29 = .ok (.invokevirtual 94, 3) := by decide +kernel
theorem dX12_takes_32 : decode cX12_takes 32 = .ok (.iload_n 2, 1) := by decide +kernel
theorem dX12_takes_33 : decode cX12_takes 33 = .ok (.ireturn, 1) := by decide +kernel
theorem dX12_number_0 : decode cX12_number 0 = .ok (.aload_n 0, 1) := by decide +kernel
theorem dX12_number_1 : decode cX12_number 1 = .ok (.aload_n 0, 1) := by decide +kernel
theorem dX12_number_2 : decode cX12_number 2 = .ok (.getfield 81, 3) := by decide +kernel
theorem dX12_number_5 : decode cX12_number 5 = .ok (.iconst 2, 1) := by decide +kernel
theorem dX12_number_6 : decode cX12_number 6 = .ok (.if_icmp .ne 19, 3) := by decide +kernel
theorem dX12_number_9 : decode cX12_number 9 = .ok (.aload_n 0, 1) := by decide +kernel
theorem dX12_number_10 : decode cX12_number 10 = .ok (.getfield 84, 3) := by decide +kernel
theorem dX12_number_13 : decode cX12_number 13 = .ok (.iload_n 1, 1) := by decide +kernel
theorem dX12_number_14 : decode cX12_number 14 = .ok (.iload_n 2, 1) := by decide +kernel
theorem dX12_number_15 : decode cX12_number 15 = .ok (.invokestatic 64, 3) := by decide +kernel
theorem dX12_number_18 : decode cX12_number 18 = .ok (.ifCond .eq 7, 3) := by decide +kernel
theorem dX12_number_21 : decode cX12_number 21 = .ok (.iconst 1, 1) := by decide +kernel
theorem dX12_number_22 : decode cX12_number 22 = .ok (.goto 4, 3) := by decide +kernel
theorem dX12_number_25 : decode cX12_number 25 = .ok (.iconst 0, 1) := by decide +kernel
theorem dX12_number_26 : decode cX12_number 26 = .ok (.invokevirtual 97, 3) := by decide +kernel
theorem dX12_number_29 : decode cX12_number 29 = .ok (.ireturn, 1) := by decide +kernel
theorem dX12_mayBegin_0 : decode cX12_mayBegin 0 = .ok (.aload_n 0, 1) := by decide +kernel
theorem dX12_mayBegin_1 : decode cX12_mayBegin 1 = .ok (.getfield 84, 3) := by decide +kernel
theorem dX12_mayBegin_4 : decode cX12_mayBegin 4 = .ok (.bipush 116, 2) := by decide +kernel
theorem dX12_mayBegin_6 : decode cX12_mayBegin 6 = .ok (.if_icmp .ne 19, 3) := by decide +kernel
theorem dX12_mayBegin_9 : decode cX12_mayBegin 9 = .ok (.aload_n 0, 1) := by decide +kernel
theorem dX12_mayBegin_10 : decode cX12_mayBegin 10 = .ok (.getfield 101, 3) := by decide +kernel
theorem dX12_mayBegin_13 : decode cX12_mayBegin 13 = .ok (.iconst 5, 1) := by decide +kernel
theorem dX12_mayBegin_14 : decode cX12_mayBegin 14 = .ok (.if_icmp .ge 7, 3) := by decide +kernel
theorem dX12_mayBegin_17 : decode cX12_mayBegin 17 = .ok (.iconst 1, 1) := by decide +kernel
theorem dX12_mayBegin_18 : decode cX12_mayBegin 18 = .ok (.goto 72, 3) := by decide +kernel
theorem dX12_mayBegin_21 : decode cX12_mayBegin 21 = .ok (.iconst 0, 1) := by decide +kernel
theorem dX12_mayBegin_22 : decode cX12_mayBegin 22 = .ok (.goto 68, 3) := by decide +kernel
theorem dX12_mayBegin_25 : decode cX12_mayBegin 25 = .ok (.aload_n 0, 1) := by decide +kernel
theorem dX12_mayBegin_26 : decode cX12_mayBegin 26 = .ok (.getfield 84, 3) := by decide +kernel
theorem dX12_mayBegin_29 : decode cX12_mayBegin 29 = .ok (.bipush 104, 2) := by decide +kernel
theorem dX12_mayBegin_31 : decode cX12_mayBegin 31 = .ok (.if_icmp .ne 20, 3) := by decide +kernel
theorem dX12_mayBegin_34 : decode cX12_mayBegin 34 = .ok (.aload_n 0, 1) := by decide +kernel
theorem dX12_mayBegin_35 : decode cX12_mayBegin 35 = .ok (.getfield 104, 3) := by decide +kernel
theorem dX12_mayBegin_38 : decode cX12_mayBegin 38 = .ok (.bipush (-9), 2) := by decide +kernel
theorem dX12_mayBegin_40 : decode cX12_mayBegin 40 = .ok (.if_icmp .ne 7, 3) := by decide +kernel
theorem dX12_mayBegin_43 : decode cX12_mayBegin 43 = .ok (.iconst 1, 1) := by decide +kernel
theorem dX12_mayBegin_44 : decode cX12_mayBegin 44 = .ok (.goto 46, 3) := by decide +kernel
theorem dX12_mayBegin_47 : decode cX12_mayBegin 47 = .ok (.iconst 0, 1) := by decide +kernel
theorem dX12_mayBegin_48 : decode cX12_mayBegin 48 = .ok (.goto 42, 3) := by decide +kernel
theorem dX12_mayBegin_51 : decode cX12_mayBegin 51 = .ok (.aload_n 0, 1) := by decide +kernel
theorem dX12_mayBegin_52 : decode cX12_mayBegin 52 = .ok (.getfield 84, 3) := by decide +kernel
theorem dX12_mayBegin_55 : decode cX12_mayBegin 55 = .ok (.bipush 99, 2) := by decide +kernel
theorem dX12_mayBegin_57 : decode cX12_mayBegin 57 = .ok (.if_icmp .ne 20, 3) := by decide +kernel
theorem dX12_mayBegin_60 : decode cX12_mayBegin 60 = .ok (.aload_n 0, 1) := by decide +kernel
theorem dX12_mayBegin_61 : decode cX12_mayBegin 61 = .ok (.getfield 107, 3) := by decide +kernel
theorem dX12_mayBegin_64 : decode cX12_mayBegin 64 = .ok (.bipush 8, 2) := by decide +kernel
theorem dX12_mayBegin_66 : decode cX12_mayBegin 66 = .ok (.if_icmp .ge 7, 3) := by decide +kernel
theorem dX12_mayBegin_69 : decode cX12_mayBegin 69 = .ok (.iconst 1, 1) := by decide +kernel
theorem dX12_mayBegin_70 : decode cX12_mayBegin 70 = .ok (.goto 20, 3) := by decide +kernel
theorem dX12_mayBegin_73 : decode cX12_mayBegin 73 = .ok (.iconst 0, 1) := by decide +kernel
theorem dX12_mayBegin_74 : decode cX12_mayBegin 74 = .ok (.goto 16, 3) := by decide +kernel
theorem dX12_mayBegin_77 : decode cX12_mayBegin 77 = .ok (.aload_n 0, 1) := by decide +kernel
theorem dX12_mayBegin_78 : decode cX12_mayBegin 78 = .ok (.getfield 110, 3) := by decide +kernel
theorem dX12_mayBegin_81 : decode cX12_mayBegin 81 = .ok (.iconst 2, 1) := by decide +kernel
theorem dX12_mayBegin_82 : decode cX12_mayBegin 82 = .ok (.if_icmp .ge 7, 3) := by decide +kernel
theorem dX12_mayBegin_85 : decode cX12_mayBegin 85 = .ok (.iconst 1, 1) := by decide +kernel
theorem dX12_mayBegin_86 : decode cX12_mayBegin 86 = .ok (.goto 4, 3) := by decide +kernel
theorem dX12_mayBegin_89 : decode cX12_mayBegin 89 = .ok (.iconst 0, 1) := by decide +kernel
theorem dX12_mayBegin_90 : decode cX12_mayBegin 90 = .ok (.ireturn, 1) := by decide +kernel
theorem dX12_readsItem_0 : decode cX12_readsItem 0 = .ok (.iload_n 1, 1) := by decide +kernel
theorem dX12_readsItem_1 : decode cX12_readsItem 1 = .ok (.bipush 116, 2) := by decide +kernel
theorem dX12_readsItem_3 : decode cX12_readsItem 3 = .ok (.if_icmp .ne 69, 3) := by decide +kernel
theorem dX12_readsItem_6 : decode cX12_readsItem 6 = .ok (.bipush 15, 2) := by decide +kernel
theorem dX12_readsItem_8 : decode cX12_readsItem 8 = .ok (.iconst 3, 1) := by decide +kernel
theorem dX12_readsItem_9 : decode cX12_readsItem 9 = .ok (.aload_n 0, 1) := by decide +kernel
theorem dX12_readsItem_10 : decode cX12_readsItem 10 = .ok (.getfield 101, 3) := by decide +kernel
theorem dX12_readsItem_13 : decode cX12_readsItem 13 = .ok (.imul, 1) := by decide +kernel
theorem dX12_readsItem_14 : decode cX12_readsItem 14 = .ok (.iadd, 1) := by decide +kernel
theorem dX12_readsItem_15 : decode cX12_readsItem 15 = .ok (.istore_n 2, 1) := by decide +kernel
theorem dX12_readsItem_16 : decode cX12_readsItem 16 = .ok (.aload_n 0, 1) := by decide +kernel
theorem dX12_readsItem_17 : decode cX12_readsItem 17 = .ok (.getfield 13, 3) := by decide +kernel
theorem dX12_readsItem_20 : decode cX12_readsItem 20 = .ok (.iload_n 2, 1) := by decide +kernel
theorem dX12_readsItem_21 : decode cX12_readsItem 21 = .ok (.aload_n 0, 1) := by decide +kernel
theorem dX12_readsItem_22 : decode cX12_readsItem 22 = .ok (.iconst 0, 1) := by decide +kernel
theorem dX12_readsItem_23 : decode cX12_readsItem 23 = .ok (.bipush 100, 2) := by decide +kernel
theorem dX12_readsItem_25 : decode cX12_readsItem 25 = .ok (.invokevirtual 113, 3) := by decide +kernel
theorem dX12_readsItem_28 : decode cX12_readsItem 28 = .ok (.iastore, 1) := by decide +kernel
theorem dX12_readsItem_29 : decode cX12_readsItem 29 = .ok (.aload_n 0, 1) := by decide +kernel
theorem dX12_readsItem_30 : decode cX12_readsItem 30 = .ok (.getfield 13, 3) := by decide +kernel
theorem dX12_readsItem_33 : decode cX12_readsItem 33 = .ok (.iload_n 2, 1) := by decide +kernel
theorem dX12_readsItem_34 : decode cX12_readsItem 34 = .ok (.iconst 1, 1) := by decide +kernel
theorem dX12_readsItem_35 : decode cX12_readsItem 35 = .ok (.iadd, 1) := by decide +kernel
theorem dX12_readsItem_36 : decode cX12_readsItem 36 = .ok (.aload_n 0, 1) := by decide +kernel
theorem dX12_readsItem_37 : decode cX12_readsItem 37 = .ok (.iconst 1, 1) := by decide +kernel
theorem dX12_readsItem_38 : decode cX12_readsItem 38 = .ok (.bipush 30, 2) := by decide +kernel
theorem dX12_readsItem_40 : decode cX12_readsItem 40 = .ok (.invokevirtual 113, 3) := by decide +kernel
theorem dX12_readsItem_43 : decode cX12_readsItem 43 = .ok (.iastore, 1) := by decide +kernel
theorem dX12_readsItem_44 : decode cX12_readsItem 44 = .ok (.aload_n 0, 1) := by decide +kernel
theorem dX12_readsItem_45 : decode cX12_readsItem 45 = .ok (.getfield 13, 3) := by decide +kernel
theorem dX12_readsItem_48 : decode cX12_readsItem 48 = .ok (.iload_n 2, 1) := by decide +kernel
theorem dX12_readsItem_49 : decode cX12_readsItem 49 = .ok (.iconst 2, 1) := by decide +kernel
theorem dX12_readsItem_50 : decode cX12_readsItem 50 = .ok (.iadd, 1) := by decide +kernel
theorem dX12_readsItem_51 : decode cX12_readsItem 51 = .ok (.aload_n 0, 1) := by decide +kernel
theorem dX12_readsItem_52 : decode cX12_readsItem 52 = .ok (.iconst 0, 1) := by decide +kernel
theorem dX12_readsItem_53 : decode cX12_readsItem 53 = .ok (.bipush 9, 2) := by decide +kernel
theorem dX12_readsItem_55 : decode cX12_readsItem 55 = .ok (.invokevirtual 113, 3) := by decide +kernel
theorem dX12_readsItem_58 : decode cX12_readsItem 58 = .ok (.iastore, 1) := by decide +kernel
theorem dX12_readsItem_59 : decode cX12_readsItem 59 = .ok (.aload_n 0, 1) := by decide +kernel
theorem dX12_readsItem_60 : decode cX12_readsItem 60 = .ok (.dup, 1) := by decide +kernel
theorem dX12_readsItem_61 : decode cX12_readsItem 61 = .ok (.getfield 101, 3) := by decide +kernel
theorem dX12_readsItem_64 : decode cX12_readsItem 64 = .ok (.iconst 1, 1) := by decide +kernel
theorem dX12_readsItem_65 : decode cX12_readsItem 65 = .ok (.iadd, 1) := by decide +kernel
theorem dX12_readsItem_66 : decode cX12_readsItem 66 = .ok (.putfield 101, 3) := by decide +kernel
theorem dX12_readsItem_69 : decode cX12_readsItem 69 = .ok (.goto 150, 3) := by decide +kernel
theorem dX12_readsItem_72 : decode cX12_readsItem 72 = .ok (.iload_n 1, 1) := by decide +kernel
theorem dX12_readsItem_73 : decode cX12_readsItem 73 = .ok (.bipush 104, 2) := by decide +kernel
theorem dX12_readsItem_75 : decode cX12_readsItem 75 = .ok (.if_icmp .ne 16, 3) := by decide +kernel
theorem dX12_readsItem_78 : decode cX12_readsItem 78 = .ok (.aload_n 0, 1) := by decide +kernel
theorem dX12_readsItem_79 : decode cX12_readsItem 79 = .ok (.aload_n 0, 1) := by decide +kernel
theorem dX12_readsItem_80 : decode cX12_readsItem 80 = .ok (.iconst 1, 1) := by decide +kernel
theorem dX12_readsItem_81 : decode cX12_readsItem 81 = .ok (.iconst 2, 1) := by decide +kernel
theorem dX12_readsItem_82 : decode cX12_readsItem 82 = .ok (.invokevirtual 113, 3) := by decide +kernel
theorem dX12_readsItem_85 : decode cX12_readsItem 85 = .ok (.putfield 104, 3) := by decide +kernel
theorem dX12_readsItem_88 : decode cX12_readsItem 88 = .ok (.goto 131, 3) := by decide +kernel
theorem dX12_readsItem_91 : decode cX12_readsItem 91 = .ok (.iload_n 1, 1) := by decide +kernel
theorem dX12_readsItem_92 : decode cX12_readsItem 92 = .ok (.bipush 99, 2) := by decide +kernel
theorem dX12_readsItem_94 : decode cX12_readsItem 94 = .ok (.if_icmp .ne 73, 3) := by decide +kernel
theorem dX12_readsItem_97 : decode cX12_readsItem 97 = .ok (.bipush 24, 2) := by decide +kernel
theorem dX12_readsItem_99 : decode cX12_readsItem 99 = .ok (.iconst 3, 1) := by decide +kernel
theorem dX12_readsItem_100 : decode cX12_readsItem 100 = .ok (.aload_n 0, 1) := by decide +kernel
theorem dX12_readsItem_101 : decode cX12_readsItem 101 = .ok (.getfield 107, 3) := by decide +kernel
theorem dX12_readsItem_104 : decode cX12_readsItem 104 = .ok (.imul, 1) := by decide +kernel
theorem dX12_readsItem_105 : decode cX12_readsItem 105 = .ok (.iadd, 1) := by decide +kernel
theorem dX12_readsItem_106 : decode cX12_readsItem 106 = .ok (.istore_n 2, 1) := by decide +kernel
theorem dX12_readsItem_107 : decode cX12_readsItem 107 = .ok (.aload_n 0, 1) := by decide +kernel
theorem dX12_readsItem_108 : decode cX12_readsItem 108 = .ok (.getfield 16, 3) := by decide +kernel
theorem dX12_readsItem_111 : decode cX12_readsItem 111 = .ok (.iload_n 2, 1) := by decide +kernel
theorem dX12_readsItem_112 : decode cX12_readsItem 112 = .ok (.aload_n 0, 1) := by decide +kernel
theorem dX12_readsItem_113 : decode cX12_readsItem 113 = .ok (.iconst 0, 1) := by decide +kernel
theorem dX12_readsItem_114 : decode cX12_readsItem 114 = .ok (.aload_n 0, 1) := by decide +kernel
theorem dX12_readsItem_115 : decode cX12_readsItem 115 = .ok (.getfield 101, 3) := by decide +kernel
theorem dX12_readsItem_118 : decode cX12_readsItem 118 = .ok (.iconst 1, 1) := by decide +kernel
theorem dX12_readsItem_119 : decode cX12_readsItem 119 = .ok (.isub, 1) := by decide +kernel
theorem dX12_readsItem_120 : decode cX12_readsItem 120 = .ok (.invokevirtual 113, 3) := by decide +kernel
theorem dX12_readsItem_123 : decode cX12_readsItem 123 = .ok (.iastore, 1) := by decide +kernel
theorem dX12_readsItem_124 : decode cX12_readsItem 124 = .ok (.aload_n 0, 1) := by decide +kernel
theorem dX12_readsItem_125 : decode cX12_readsItem 125 = .ok (.getfield 16, 3) := by decide +kernel
theorem dX12_readsItem_128 : decode cX12_readsItem 128 = .ok (.iload_n 2, 1) := by decide +kernel
theorem dX12_readsItem_129 : decode cX12_readsItem 129 = .ok (.iconst 1, 1) := by decide +kernel
theorem dX12_readsItem_130 : decode cX12_readsItem 130 = .ok (.iadd, 1) := by decide +kernel
theorem dX12_readsItem_131 : decode cX12_readsItem 131 = .ok (.aload_n 0, 1) := by decide +kernel
theorem dX12_readsItem_132 : decode cX12_readsItem 132 = .ok (.iconst 0, 1) := by decide +kernel
theorem dX12_readsItem_133 : decode cX12_readsItem 133 = .ok (.bipush 60, 2) := by decide +kernel
theorem dX12_readsItem_135 : decode cX12_readsItem 135 = .ok (.invokevirtual 113, 3) := by decide +kernel
theorem dX12_readsItem_138 : decode cX12_readsItem 138 = .ok (.iastore, 1) := by decide +kernel
theorem dX12_readsItem_139 : decode cX12_readsItem 139 = .ok (.aload_n 0, 1) := by decide +kernel
theorem dX12_readsItem_140 : decode cX12_readsItem 140 = .ok (.getfield 16, 3) := by decide +kernel
theorem dX12_readsItem_143 : decode cX12_readsItem 143 = .ok (.iload_n 2, 1) := by decide +kernel
theorem dX12_readsItem_144 : decode cX12_readsItem 144 = .ok (.iconst 2, 1) := by decide +kernel
theorem dX12_readsItem_145 : decode cX12_readsItem 145 = .ok (.iadd, 1) := by decide +kernel
theorem dX12_readsItem_146 : decode cX12_readsItem 146 = .ok (.aload_n 0, 1) := by decide +kernel
theorem dX12_readsItem_147 : decode cX12_readsItem 147 = .ok (.iconst 1, 1) := by decide +kernel
theorem dX12_readsItem_148 : decode cX12_readsItem 148 = .ok (.bipush 50, 2) := by decide +kernel
theorem dX12_readsItem_150 : decode cX12_readsItem 150 = .ok (.invokevirtual 113, 3) := by decide +kernel
theorem dX12_readsItem_153 : decode cX12_readsItem 153 = .ok (.iastore, 1) := by decide +kernel
theorem dX12_readsItem_154 : decode cX12_readsItem 154 = .ok (.aload_n 0, 1) := by decide +kernel
theorem dX12_readsItem_155 : decode cX12_readsItem 155 = .ok (.dup, 1) := by decide +kernel
theorem dX12_readsItem_156 : decode cX12_readsItem 156 = .ok (.getfield 107, 3) := by decide +kernel
theorem dX12_readsItem_159 : decode cX12_readsItem 159 = .ok (.iconst 1, 1) := by decide +kernel
theorem dX12_readsItem_160 : decode cX12_readsItem 160 = .ok (.iadd, 1) := by decide +kernel
theorem dX12_readsItem_161 : decode cX12_readsItem 161 = .ok (.putfield 107, 3) := by decide +kernel
theorem dX12_readsItem_164 : decode cX12_readsItem 164 = .ok (.goto 55, 3) := by decide +kernel
theorem dX12_readsItem_167 : decode cX12_readsItem 167 = .ok (.iconst 4, 1) := by decide +kernel
theorem dX12_readsItem_168 : decode cX12_readsItem 168 = .ok (.iconst 2, 1) := by decide +kernel
theorem dX12_readsItem_169 : decode cX12_readsItem 169 = .ok (.aload_n 0, 1) := by decide +kernel
theorem dX12_readsItem_170 : decode cX12_readsItem 170 = .ok (.getfield 110, 3) := by decide +kernel
theorem dX12_readsItem_173 : decode cX12_readsItem 173 = .ok (.imul, 1) := by decide +kernel
theorem dX12_readsItem_174 : decode cX12_readsItem 174 = .ok (.iadd, 1) := by decide +kernel
theorem dX12_readsItem_175 : decode cX12_readsItem 175 = .ok (.istore_n 2, 1) := by decide +kernel
theorem dX12_readsItem_176 : decode cX12_readsItem 176 = .ok (.aload_n 0, 1) := by decide +kernel
theorem dX12_readsItem_177 : decode cX12_readsItem 177 = .ok (.getfield 19, 3) := by decide +kernel
theorem dX12_readsItem_180 : decode cX12_readsItem 180 = .ok (.iload_n 2, 1) := by decide +kernel
theorem dX12_readsItem_181 : decode cX12_readsItem 181 = .ok (.aload_n 0, 1) := by decide +kernel
theorem dX12_readsItem_182 : decode cX12_readsItem 182 = .ok (.iconst 0, 1) := by decide +kernel
theorem dX12_readsItem_183 : decode cX12_readsItem 183 = .ok (.bipush 60, 2) := by decide +kernel
theorem dX12_readsItem_185 : decode cX12_readsItem 185 = .ok (.invokevirtual 113, 3) := by decide +kernel
theorem dX12_readsItem_188 : decode cX12_readsItem 188 = .ok (.iastore, 1) := by decide +kernel
theorem dX12_readsItem_189 : decode cX12_readsItem 189 = .ok (.aload_n 0, 1) := by decide +kernel
theorem dX12_readsItem_190 : decode cX12_readsItem 190 = .ok (.getfield 19, 3) := by decide +kernel
theorem dX12_readsItem_193 : decode cX12_readsItem 193 = .ok (.iload_n 2, 1) := by decide +kernel
theorem dX12_readsItem_194 : decode cX12_readsItem 194 = .ok (.iconst 1, 1) := by decide +kernel
theorem dX12_readsItem_195 : decode cX12_readsItem 195 = .ok (.iadd, 1) := by decide +kernel
theorem dX12_readsItem_196 : decode cX12_readsItem 196 = .ok (.aload_n 0, 1) := by decide +kernel
theorem dX12_readsItem_197 : decode cX12_readsItem 197 = .ok (.aload_n 0, 1) := by decide +kernel
theorem dX12_readsItem_198 : decode cX12_readsItem 198 = .ok (.getfield 19, 3) := by decide +kernel
theorem dX12_readsItem_201 : decode cX12_readsItem 201 = .ok (.iload_n 2, 1) := by decide +kernel
theorem dX12_readsItem_202 : decode cX12_readsItem 202 = .ok (.iaload, 1) := by decide +kernel
theorem dX12_readsItem_203 : decode cX12_readsItem 203 = .ok (.bipush 60, 2) := by decide +kernel
theorem dX12_readsItem_205 : decode cX12_readsItem 205 = .ok (.invokevirtual 113, 3) := by decide +kernel
theorem dX12_readsItem_208 : decode cX12_readsItem 208 = .ok (.iastore, 1) := by decide +kernel
theorem dX12_readsItem_209 : decode cX12_readsItem 209 = .ok (.aload_n 0, 1) := by decide +kernel
theorem dX12_readsItem_210 : decode cX12_readsItem 210 = .ok (.dup, 1) := by decide +kernel
theorem dX12_readsItem_211 : decode cX12_readsItem 211 = .ok (.getfield 110, 3) := by decide +kernel
theorem dX12_readsItem_214 : decode cX12_readsItem 214 = .ok (.iconst 1, 1) := by decide +kernel
theorem dX12_readsItem_215 : decode cX12_readsItem 215 = .ok (.iadd, 1) := by decide +kernel
theorem dX12_readsItem_216 : decode cX12_readsItem 216 = .ok (.putfield 110, 3) := by decide +kernel
theorem dX12_readsItem_219 : decode cX12_readsItem 219 = .ok (.return_, 1) := by decide +kernel
theorem dX12_room_0 : decode cX12_room 0 = .ok (.aload_n 0, 1) := by decide +kernel
theorem dX12_room_1 : decode cX12_room 1 = .ok (.iconst 0, 1) := by decide +kernel
theorem dX12_room_2 : decode cX12_room 2 = .ok (.putfield 61, 3) := by decide +kernel
theorem dX12_room_5 : decode cX12_room 5 = .ok (.aload_n 0, 1) := by decide +kernel
theorem dX12_room_6 : decode cX12_room 6 = .ok (.iconst (-1), 1) := by decide +kernel
theorem dX12_room_7 : decode cX12_room 7 = .ok (.putfield 87, 3) := by decide +kernel
theorem dX12_room_10 : decode cX12_room 10 = .ok (.aload_n 0, 1) := by decide +kernel
theorem dX12_room_11 : decode cX12_room 11 = .ok (.iconst 0, 1) := by decide +kernel
theorem dX12_room_12 : decode cX12_room 12 = .ok (.putfield 71, 3) := by decide +kernel
theorem dX12_room_15 : decode cX12_room 15 = .ok (.iconst 0, 1) := by decide +kernel
theorem dX12_room_16 : decode cX12_room 16 = .ok (.istore_n 1, 1) := by decide +kernel
theorem dX12_room_17 : decode cX12_room 17 = .ok (.aload_n 0, 1) := by decide +kernel
theorem dX12_room_18 : decode cX12_room 18 = .ok (.iconst 0, 1) := by decide +kernel
theorem dX12_room_19 : decode cX12_room 19 = .ok (.putfield 101, 3) := by decide +kernel
theorem dX12_room_22 : decode cX12_room 22 = .ok (.aload_n 0, 1) := by decide +kernel
theorem dX12_room_23 : decode cX12_room 23 = .ok (.iconst 0, 1) := by decide +kernel
theorem dX12_room_24 : decode cX12_room 24 = .ok (.putfield 107, 3) := by decide +kernel
theorem dX12_room_27 : decode cX12_room 27 = .ok (.aload_n 0, 1) := by decide +kernel
theorem dX12_room_28 : decode cX12_room 28 = .ok (.iconst 0, 1) := by decide +kernel
theorem dX12_room_29 : decode cX12_room 29 = .ok (.putfield 110, 3) := by decide +kernel
theorem dX12_room_32 : decode cX12_room 32 = .ok (.aload_n 0, 1) := by decide +kernel
theorem dX12_room_33 : decode cX12_room 33 = .ok (.bipush (-9), 2) := by decide +kernel
theorem dX12_room_35 : decode cX12_room 35 = .ok (.putfield 104, 3) := by decide +kernel
theorem dX12_room_38 : decode cX12_room 38 = .ok (.aload_n 0, 1) := by decide +kernel
theorem dX12_room_39 : decode cX12_room 39 = .ok (.invokevirtual 94, 3) := by decide +kernel
theorem dX12_room_42 : decode cX12_room 42 = .ok (.aload_n 0, 1) := by decide +kernel
theorem dX12_room_43 : decode cX12_room 43 = .ok (.invokevirtual 90, 3) := by decide +kernel
theorem dX12_room_46 : decode cX12_room 46 = .ok (.ifCond .eq 71, 3) := by decide +kernel
theorem dX12_room_49 : decode cX12_room 49 = .ok (.aload_n 0, 1) := by decide +kernel
theorem dX12_room_50 : decode cX12_room 50 = .ok (.getfield 81, 3) := by decide +kernel
theorem dX12_room_53 : decode cX12_room 53 = .ok (.ifCond .eq 64, 3) := by decide +kernel
theorem dX12_room_56 : decode cX12_room 56 = .ok (.aload_n 0, 1) := by decide +kernel
theorem dX12_room_57 : decode cX12_room 57 = .ok (.aload_n 0, 1) := by decide +kernel
theorem dX12_room_58 : decode cX12_room 58 = .ok (.getfield 81, 3) := by decide +kernel
theorem dX12_room_61 : decode cX12_room 61 = .ok (.iconst 1, 1) := by decide +kernel
theorem dX12_room_62 : decode cX12_room 62 = .ok (.if_icmp .ne 14, 3) := by decide +kernel
theorem dX12_room_65 : decode cX12_room 65 = .ok (.aload_n 0, 1) := by decide +kernel
theorem dX12_room_66 : decode cX12_room 66 = .ok (.invokevirtual 117, 3) := by decide +kernel
theorem dX12_room_69 : decode cX12_room 69 = .ok (.ifCond .eq 7, 3) := by decide +kernel
theorem dX12_room_72 : decode cX12_room 72 = .ok (.iconst 1, 1) := by decide +kernel
theorem dX12_room_73 : decode cX12_room 73 = .ok (.goto 4, 3) := by decide +kernel
theorem dX12_room_76 : decode cX12_room 76 = .ok (.iconst 0, 1) := by decide +kernel
theorem dX12_room_77 : decode cX12_room 77 = .ok (.invokevirtual 97, 3) := by decide +kernel
theorem dX12_room_80 : decode cX12_room 80 = .ok (.istore_n 2, 1) := by decide +kernel
theorem dX12_room_81 : decode cX12_room 81 = .ok (.aload_n 0, 1) := by decide +kernel
theorem dX12_room_82 : decode cX12_room 82 = .ok (.invokevirtual 90, 3) := by decide +kernel
theorem dX12_room_85 : decode cX12_room 85 = .ok (.ifCond .eq 8, 3) := by decide +kernel
theorem dX12_room_88 : decode cX12_room 88 = .ok (.aload_n 0, 1) := by decide +kernel
theorem dX12_room_89 : decode cX12_room 89 = .ok (.iload_n 2, 1) := by decide +kernel
theorem dX12_room_90 : decode cX12_room 90 = .ok (.invokevirtual 120, 3) := by decide +kernel
theorem dX12_room_93 : decode cX12_room 93 = .ok (.aload_n 0, 1) := by decide +kernel
theorem dX12_room_94 : decode cX12_room 94 = .ok (.aload_n 0, 1) := by decide +kernel
theorem dX12_room_95 : decode cX12_room 95 = .ok (.getfield 81, 3) := by decide +kernel
theorem dX12_room_98 : decode cX12_room 98 = .ok (.iconst 3, 1) := by decide +kernel
theorem dX12_room_99 : decode cX12_room 99 = .ok (.if_icmp .ne 7, 3) := by decide +kernel
theorem dX12_room_102 : decode cX12_room 102 = .ok (.iconst 1, 1) := by decide +kernel
theorem dX12_room_103 : decode cX12_room 103 = .ok (.goto 4, 3) := by decide +kernel
theorem dX12_room_106 : decode cX12_room 106 = .ok (.iconst 0, 1) := by decide +kernel
theorem dX12_room_107 : decode cX12_room 107 = .ok (.invokevirtual 97, 3) := by decide +kernel
theorem dX12_room_110 : decode cX12_room 110 = .ok (.pop, 1) := by decide +kernel
theorem dX12_room_111 : decode cX12_room 111 = .ok (.iinc 1 1, 3) := by decide +kernel
theorem dX12_room_114 : decode cX12_room 114 = .ok (.goto (-72), 3) := by decide +kernel
theorem dX12_room_117 : decode cX12_room 117 = .ok (.aload_n 0, 1) := by decide +kernel
theorem dX12_room_118 : decode cX12_room 118 = .ok (.invokevirtual 90, 3) := by decide +kernel
theorem dX12_room_121 : decode cX12_room 121 = .ok (.ifCond .ne 11, 3) := by decide +kernel
theorem dX12_room_124 : decode cX12_room 124 = .ok (.bipush (-10), 2) := by decide +kernel
theorem dX12_room_126 : decode cX12_room 126 = .ok (.aload_n 0, 1) := by decide +kernel
theorem dX12_room_127 : decode cX12_room 127 = .ok (.getfield 87, 3) := by decide +kernel
theorem dX12_room_130 : decode cX12_room 130 = .ok (.isub, 1) := by decide +kernel
theorem dX12_room_131 : decode cX12_room 131 = .ok (.ireturn, 1) := by decide +kernel
theorem dX12_room_132 : decode cX12_room 132 = .ok (.aload_n 0, 1) := by decide +kernel
theorem dX12_room_133 : decode cX12_room 133 = .ok (.invokevirtual 124, 3) := by decide +kernel
theorem dX12_room_136 : decode cX12_room 136 = .ok (.iload_n 1, 1) := by decide +kernel
theorem dX12_room_137 : decode cX12_room 137 = .ok (.ireturn, 1) := by decide +kernel
theorem dX12_settles_0 : decode cX12_settles 0 = .ok (.aload_n 0, 1) := by decide +kernel
theorem dX12_settles_1 : decode cX12_settles 1 = .ok (.aload_n 0, 1) := by decide +kernel
theorem dX12_settles_2 : decode cX12_settles 2 = .ok (.getfield 101, 3) := by decide +kernel
theorem dX12_settles_5 : decode cX12_settles 5 = .ok (.putfield 127, 3) := by decide +kernel
theorem dX12_settles_8 : decode cX12_settles 8 = .ok (.aload_n 0, 1) := by decide +kernel
theorem dX12_settles_9 : decode cX12_settles 9 = .ok (.aload_n 0, 1) := by decide +kernel
theorem dX12_settles_10 : decode cX12_settles 10 = .ok (.getfield 107, 3) := by decide +kernel
theorem dX12_settles_13 : decode cX12_settles 13 = .ok (.putfield 130, 3) := by decide +kernel
theorem dX12_settles_16 : decode cX12_settles 16 = .ok (.aload_n 0, 1) := by decide +kernel
theorem dX12_settles_17 : decode cX12_settles 17 = .ok (.aload_n 0, 1) := by decide +kernel
theorem dX12_settles_18 : decode cX12_settles 18 = .ok (.getfield 110, 3) := by decide +kernel
theorem dX12_settles_21 : decode cX12_settles 21 = .ok (.putfield 133, 3) := by decide +kernel
theorem dX12_settles_24 : decode cX12_settles 24 = .ok (.aload_n 0, 1) := by decide +kernel
theorem dX12_settles_25 : decode cX12_settles 25 = .ok (.aload_n 0, 1) := by decide +kernel
theorem dX12_settles_26 : decode cX12_settles 26 = .ok (.getfield 104, 3) := by decide +kernel
theorem dX12_settles_29 : decode cX12_settles 29 = .ok (.bipush (-9), 2) := by decide +kernel
theorem dX12_settles_31 : decode cX12_settles 31 = .ok (.if_icmp .ne 7, 3) := by decide +kernel
theorem dX12_settles_34 : decode cX12_settles 34 = .ok (.iconst 1, 1) := by decide +kernel
theorem dX12_settles_35 : decode cX12_settles 35 = .ok (.goto 7, 3) := by decide +kernel
theorem dX12_settles_38 : decode cX12_settles 38 = .ok (.aload_n 0, 1) := by decide +kernel
theorem dX12_settles_39 : decode cX12_settles 39 = .ok (.getfield 104, 3) := by decide +kernel
theorem dX12_settles_42 : decode cX12_settles 42 = .ok (.putfield 57, 3) := by decide +kernel
theorem dX12_settles_45 : decode cX12_settles 45 = .ok (.iconst 0, 1) := by decide +kernel
theorem dX12_settles_46 : decode cX12_settles 46 = .ok (.istore_n 1, 1) := by decide +kernel
theorem dX12_settles_47 : decode cX12_settles 47 = .ok (.iload_n 1, 1) := by decide +kernel
theorem dX12_settles_48 : decode cX12_settles 48 = .ok (.bipush 15, 2) := by decide +kernel
theorem dX12_settles_50 : decode cX12_settles 50 = .ok (.if_icmp .ge 24, 3) := by decide +kernel
theorem dX12_settles_53 : decode cX12_settles 53 = .ok (.aload_n 0, 1) := by decide +kernel
theorem dX12_settles_54 : decode cX12_settles 54 = .ok (.getfield 13, 3) := by decide +kernel
theorem dX12_settles_57 : decode cX12_settles 57 = .ok (.iload_n 1, 1) := by decide +kernel
theorem dX12_settles_58 : decode cX12_settles 58 = .ok (.aload_n 0, 1) := by decide +kernel
theorem dX12_settles_59 : decode cX12_settles 59 = .ok (.getfield 13, 3) := by decide +kernel
theorem dX12_settles_62 : decode cX12_settles 62 = .ok (.bipush 15, 2) := by decide +kernel
theorem dX12_settles_64 : decode cX12_settles 64 = .ok (.iload_n 1, 1) := by decide +kernel
theorem dX12_settles_65 : decode cX12_settles 65 = .ok (.iadd, 1) := by decide +kernel
theorem dX12_settles_66 : decode cX12_settles 66 = .ok (.iaload, 1) := by decide +kernel
theorem dX12_settles_67 : decode cX12_settles 67 = .ok (.iastore, 1) := by decide +kernel
theorem dX12_settles_68 : decode cX12_settles 68 = .ok (.iinc 1 1, 3) := by decide +kernel
theorem dX12_settles_71 : decode cX12_settles 71 = .ok (.goto (-24), 3) := by decide +kernel
theorem dX12_settles_74 : decode cX12_settles 74 = .ok (.iconst 0, 1) := by decide +kernel
theorem dX12_settles_75 : decode cX12_settles 75 = .ok (.istore_n 1, 1) := by decide +kernel
theorem dX12_settles_76 : decode cX12_settles 76 = .ok (.iload_n 1, 1) := by decide +kernel
theorem dX12_settles_77 : decode cX12_settles 77 = .ok (.bipush 24, 2) := by decide +kernel
theorem dX12_settles_79 : decode cX12_settles 79 = .ok (.if_icmp .ge 24, 3) := by decide +kernel
theorem dX12_settles_82 : decode cX12_settles 82 = .ok (.aload_n 0, 1) := by decide +kernel
theorem dX12_settles_83 : decode cX12_settles 83 = .ok (.getfield 16, 3) := by decide +kernel
theorem dX12_settles_86 : decode cX12_settles 86 = .ok (.iload_n 1, 1) := by decide +kernel
theorem dX12_settles_87 : decode cX12_settles 87 = .ok (.aload_n 0, 1) := by decide +kernel
theorem dX12_settles_88 : decode cX12_settles 88 = .ok (.getfield 16, 3) := by decide +kernel
theorem dX12_settles_91 : decode cX12_settles 91 = .ok (.bipush 24, 2) := by decide +kernel
theorem dX12_settles_93 : decode cX12_settles 93 = .ok (.iload_n 1, 1) := by decide +kernel
theorem dX12_settles_94 : decode cX12_settles 94 = .ok (.iadd, 1) := by decide +kernel
theorem dX12_settles_95 : decode cX12_settles 95 = .ok (.iaload, 1) := by decide +kernel
theorem dX12_settles_96 : decode cX12_settles 96 = .ok (.iastore, 1) := by decide +kernel
theorem dX12_settles_97 : decode cX12_settles 97 = .ok (.iinc 1 1, 3) := by decide +kernel
theorem dX12_settles_100 : decode cX12_settles 100 = .ok (.goto (-24), 3) := by decide +kernel
theorem dX12_settles_103 : decode cX12_settles 103 = .ok (.iconst 0, 1) := by decide +kernel
theorem dX12_settles_104 : decode cX12_settles 104 = .ok (.istore_n 1, 1) := by decide +kernel
theorem dX12_settles_105 : decode cX12_settles 105 = .ok (.iload_n 1, 1) := by decide +kernel
theorem dX12_settles_106 : decode cX12_settles 106 = .ok (.iconst 4, 1) := by decide +kernel
theorem dX12_settles_107 : decode cX12_settles 107 = .ok (.if_icmp .ge 23, 3) := by decide +kernel
theorem dX12_settles_110 : decode cX12_settles 110 = .ok (.aload_n 0, 1) := by decide +kernel
theorem dX12_settles_111 : decode cX12_settles 111 = .ok (.getfield 19, 3) := by decide +kernel
theorem dX12_settles_114 : decode cX12_settles 114 = .ok (.iload_n 1, 1) := by decide +kernel
theorem dX12_settles_115 : decode cX12_settles 115 = .ok (.aload_n 0, 1) := by decide +kernel
theorem dX12_settles_116 : decode cX12_settles 116 = .ok (.getfield 19, 3) := by decide +kernel
theorem dX12_settles_119 : decode cX12_settles 119 = .ok (.iconst 4, 1) := by decide +kernel
theorem dX12_settles_120 : decode cX12_settles 120 = .ok (.iload_n 1, 1) := by decide +kernel
theorem dX12_settles_121 : decode cX12_settles 121 = .ok (.iadd, 1) := by decide +kernel
theorem dX12_settles_122 : decode cX12_settles 122 = .ok (.iaload, 1) := by decide +kernel
theorem dX12_settles_123 : decode cX12_settles 123 = .ok (.iastore, 1) := by decide +kernel
theorem dX12_settles_124 : decode cX12_settles 124 = .ok (.iinc 1 1, 3) := by decide +kernel
theorem dX12_settles_127 : decode cX12_settles 127 = .ok (.goto (-22), 3) := by decide +kernel
theorem dX12_settles_130 : decode cX12_settles 130 = .ok (.iconst 0, 1) := by decide +kernel
theorem dX12_settles_131 : decode cX12_settles 131 = .ok (.istore_n 1, 1) := by decide +kernel
theorem dX12_settles_132 : decode cX12_settles 132 = .ok (.iload_n 1, 1) := by decide +kernel
theorem dX12_settles_133 : decode cX12_settles 133 = .ok (.bipush 14, 2) := by decide +kernel
theorem dX12_settles_135 : decode cX12_settles 135 = .ok (.if_icmp .ge 16, 3) := by decide +kernel
theorem dX12_settles_138 : decode cX12_settles 138 = .ok (.aload_n 0, 1) := by decide +kernel
theorem dX12_settles_139 : decode cX12_settles 139 = .ok (.getfield 22, 3) := by decide +kernel
theorem dX12_settles_142 : decode cX12_settles 142 = .ok (.iload_n 1, 1) := by decide +kernel
theorem dX12_settles_143 : decode cX12_settles 143 = .ok (.iconst 0, 1) := by decide +kernel
theorem dX12_settles_144 : decode cX12_settles 144 = .ok (.iastore, 1) := by decide +kernel
theorem dX12_settles_145 : decode cX12_settles 145 = .ok (.iinc 1 1, 3) := by decide +kernel
theorem dX12_settles_148 : decode cX12_settles 148 = .ok (.goto (-16), 3) := by decide +kernel
theorem dX12_settles_151 : decode cX12_settles 151 = .ok (.iconst 0, 1) := by decide +kernel
theorem dX12_settles_152 : decode cX12_settles 152 = .ok (.istore_n 1, 1) := by decide +kernel
theorem dX12_settles_153 : decode cX12_settles 153 = .ok (.iload_n 1, 1) := by decide +kernel
theorem dX12_settles_154 : decode cX12_settles 154 = .ok (.aload_n 0, 1) := by decide +kernel
theorem dX12_settles_155 : decode cX12_settles 155 = .ok (.getfield 127, 3) := by decide +kernel
theorem dX12_settles_158 : decode cX12_settles 158 = .ok (.if_icmp .ge 25, 3) := by decide +kernel
theorem dX12_settles_161 : decode cX12_settles 161 = .ok (.aload_n 0, 1) := by decide +kernel
theorem dX12_settles_162 : decode cX12_settles 162 = .ok (.getfield 22, 3) := by decide +kernel
theorem dX12_settles_165 : decode cX12_settles 165 = .ok (.iconst 4, 1) := by decide +kernel
theorem dX12_settles_166 : decode cX12_settles 166 = .ok (.iload_n 1, 1) := by decide +kernel
theorem dX12_settles_167 : decode cX12_settles 167 = .ok (.iadd, 1) := by decide +kernel
theorem dX12_settles_168 : decode cX12_settles 168 = .ok (.aload_n 0, 1) := by decide +kernel
theorem dX12_settles_169 : decode cX12_settles 169 = .ok (.getfield 13, 3) := by decide +kernel
theorem dX12_settles_172 : decode cX12_settles 172 = .ok (.iconst 3, 1) := by decide +kernel
theorem dX12_settles_173 : decode cX12_settles 173 = .ok (.iload_n 1, 1) := by decide +kernel
theorem dX12_settles_174 : decode cX12_settles 174 = .ok (.imul, 1) := by decide +kernel
theorem dX12_settles_175 : decode cX12_settles 175 = .ok (.iaload, 1) := by decide +kernel
theorem dX12_settles_176 : decode cX12_settles 176 = .ok (.iastore, 1) := by decide +kernel
theorem dX12_settles_177 : decode cX12_settles 177 = .ok (.iinc 1 1, 3) := by decide +kernel
theorem dX12_settles_180 : decode cX12_settles 180 = .ok (.goto (-27), 3) := by decide +kernel
theorem dX12_settles_183 : decode cX12_settles 183 = .ok (.aload_n 0, 1) := by decide +kernel
theorem dX12_settles_184 : decode cX12_settles 184 = .ok (.iconst 0, 1) := by decide +kernel
theorem dX12_settles_185 : decode cX12_settles 185 = .ok (.putfield 68, 3) := by decide +kernel
theorem dX12_settles_188 : decode cX12_settles 188 = .ok (.aload_n 0, 1) := by decide +kernel
theorem dX12_settles_189 : decode cX12_settles 189 = .ok (.iconst 0, 1) := by decide +kernel
theorem dX12_settles_190 : decode cX12_settles 190 = .ok (.putfield 136, 3) := by decide +kernel
theorem dX12_settles_193 : decode cX12_settles 193 = .ok (.aload_n 0, 1) := by decide +kernel
theorem dX12_settles_194 : decode cX12_settles 194 = .ok (.iconst 0, 1) := by decide +kernel
theorem dX12_settles_195 : decode cX12_settles 195 = .ok (.putfield 139, 3) := by decide +kernel
theorem dX12_settles_198 : decode cX12_settles 198 = .ok (.aload_n 0, 1) := by decide +kernel
theorem dX12_settles_199 : decode cX12_settles 199 = .ok (.getfield 31, 3) := by decide +kernel
theorem dX12_settles_202 : decode cX12_settles 202 = .ok (.iconst 0, 1) := by decide +kernel
theorem dX12_settles_203 : decode cX12_settles 203 = .ok (.iconst 0, 1) := by decide +kernel
theorem dX12_settles_204 : decode cX12_settles 204 = .ok (.bastore, 1) := by decide +kernel
theorem dX12_settles_205 : decode cX12_settles 205 = .ok (.aload_n 0, 1) := by decide +kernel
theorem dX12_settles_206 : decode cX12_settles 206 = .ok (.getfield 31, 3) := by decide +kernel
theorem dX12_settles_209 : decode cX12_settles 209 = .ok (.iconst 1, 1) := by decide +kernel
theorem dX12_settles_210 : decode cX12_settles 210 = .ok (.iconst 0, 1) := by decide +kernel
theorem dX12_settles_211 : decode cX12_settles 211 = .ok (.bastore, 1) := by decide +kernel
theorem dX12_settles_212 : decode cX12_settles 212 = .ok (.return_, 1) := by decide +kernel
theorem dX12_isPhone_0 : decode cX12_isPhone 0 = .ok (.iload_n 1, 1) := by decide +kernel
theorem dX12_isPhone_1 : decode cX12_isPhone 1 = .ok (.iconst 0, 1) := by decide +kernel
theorem dX12_isPhone_2 : decode cX12_isPhone 2 = .ok (.aload_n 0, 1) := by decide +kernel
theorem dX12_isPhone_3 : decode cX12_isPhone 3 = .ok (.getfield 127, 3) := by decide +kernel
theorem dX12_isPhone_6 : decode cX12_isPhone 6 = .ok (.iconst 1, 1) := by decide +kernel
theorem dX12_isPhone_7 : decode cX12_isPhone 7 = .ok (.isub, 1) := by decide +kernel
theorem dX12_isPhone_8 : decode cX12_isPhone 8 = .ok (.invokestatic 64, 3) := by decide +kernel
theorem dX12_isPhone_11 : decode cX12_isPhone 11 = .ok (.ireturn, 1) := by decide +kernel
theorem dX12_phone_0 : decode cX12_phone 0 = .ok (.aload_n 0, 1) := by decide +kernel
theorem dX12_phone_1 : decode cX12_phone 1 = .ok (.iconst 0, 1) := by decide +kernel
theorem dX12_phone_2 : decode cX12_phone 2 = .ok (.putfield 61, 3) := by decide +kernel
theorem dX12_phone_5 : decode cX12_phone 5 = .ok (.aload_n 0, 1) := by decide +kernel
theorem dX12_phone_6 : decode cX12_phone 6 = .ok (.iload_n 1, 1) := by decide +kernel
theorem dX12_phone_7 : decode cX12_phone 7 = .ok (.invokevirtual 142, 3) := by decide +kernel
theorem dX12_phone_10 : decode cX12_phone 10 = .ok (.ifCond .eq 12, 3) := by decide +kernel
theorem dX12_phone_13 : decode cX12_phone 13 = .ok (.iload_n 2, 1) := by decide +kernel
theorem dX12_phone_14 : decode cX12_phone 14 = .ok (.iconst 0, 1) := by decide +kernel
theorem dX12_phone_15 : decode cX12_phone 15 = .ok (.iconst 4, 1) := by decide +kernel
theorem dX12_phone_16 : decode cX12_phone 16 = .ok (.invokestatic 64, 3) := by decide +kernel
theorem dX12_phone_19 : decode cX12_phone 19 = .ok (.ifCond .ne 5, 3) := by decide +kernel
theorem dX12_phone_22 : decode cX12_phone 22 = .ok (.iconst (-1), 1) := by decide +kernel
theorem dX12_phone_23 : decode cX12_phone 23 = .ok (.ireturn, 1) := by decide +kernel
theorem dX12_phone_24 : decode cX12_phone 24 = .ok (.iload_n 2, 1) := by decide +kernel
theorem dX12_phone_25 : decode cX12_phone 25 = .ok (.iconst 3, 1) := by decide +kernel
theorem dX12_phone_26 : decode cX12_phone 26 = .ok (.if_icmp .ge 29, 3) := by decide +kernel
theorem dX12_phone_29 : decode cX12_phone 29 = .ok (.iload_n 2, 1) := by decide +kernel
theorem dX12_phone_30 : decode cX12_phone 30 = .ok (.ifCond .ne 14, 3) := by decide +kernel
theorem dX12_phone_33 : decode cX12_phone 33 = .ok (.aload_n 0, 1) := by decide +kernel
theorem dX12_phone_34 : decode cX12_phone 34 = .ok (.getfield 22, 3) := by decide +kernel
theorem dX12_phone_37 : decode cX12_phone 37 = .ok (.iconst 4, 1) := by decide +kernel
theorem dX12_phone_38 : decode cX12_phone 38 = .ok (.iload_n 1, 1) := by decide +kernel
theorem dX12_phone_39 : decode cX12_phone 39 = .ok (.iadd, 1) := by decide +kernel
theorem dX12_phone_40 : decode cX12_phone 40 = .ok (.iaload, 1) := by decide +kernel
theorem dX12_phone_41 : decode cX12_phone 41 = .ok (.goto 13, 3) := by decide +kernel
theorem dX12_phone_44 : decode cX12_phone 44 = .ok (.aload_n 0, 1) := by decide +kernel
theorem dX12_phone_45 : decode cX12_phone 45 = .ok (.getfield 13, 3) := by decide +kernel
theorem dX12_phone_48 : decode cX12_phone 48 = .ok (.iconst 3, 1) := by decide +kernel
theorem dX12_phone_49 : decode cX12_phone 49 = .ok (.iload_n 1, 1) := by decide +kernel
theorem dX12_phone_50 : decode cX12_phone 50 = .ok (.imul, 1) := by decide +kernel
theorem dX12_phone_51 : decode cX12_phone 51 = .ok (.iload_n 2, 1) := by decide +kernel
theorem dX12_phone_52 : decode cX12_phone 52 = .ok (.iadd, 1) := by decide +kernel
theorem dX12_phone_53 : decode cX12_phone 53 = .ok (.iaload, 1) := by decide +kernel
theorem dX12_phone_54 : decode cX12_phone 54 = .ok (.ireturn, 1) := by decide +kernel
theorem dX12_phone_55 : decode cX12_phone 55 = .ok (.iload_n 2, 1) := by decide +kernel
theorem dX12_phone_56 : decode cX12_phone 56 = .ok (.iconst 3, 1) := by decide +kernel
theorem dX12_phone_57 : decode cX12_phone 57 = .ok (.if_icmp .ne 15, 3) := by decide +kernel
theorem dX12_phone_60 : decode cX12_phone 60 = .ok (.aload_n 0, 1) := by decide +kernel
theorem dX12_phone_61 : decode cX12_phone 61 = .ok (.getfield 22, 3) := by decide +kernel
theorem dX12_phone_64 : decode cX12_phone 64 = .ok (.bipush 9, 2) := by decide +kernel
theorem dX12_phone_66 : decode cX12_phone 66 = .ok (.iload_n 1, 1) := by decide +kernel
theorem dX12_phone_67 : decode cX12_phone 67 = .ok (.iadd, 1) := by decide +kernel
theorem dX12_phone_68 : decode cX12_phone 68 = .ok (.iaload, 1) := by decide +kernel
theorem dX12_phone_69 : decode cX12_phone 69 = .ok (.goto 13, 3) := by decide +kernel
theorem dX12_phone_72 : decode cX12_phone 72 = .ok (.aload_n 0, 1) := by decide +kernel
theorem dX12_phone_73 : decode cX12_phone 73 = .ok (.getfield 22, 3) := by decide +kernel
theorem dX12_phone_76 : decode cX12_phone 76 = .ok (.iconst 1, 1) := by decide +kernel
theorem dX12_phone_77 : decode cX12_phone 77 = .ok (.iaload, 1) := by decide +kernel
theorem dX12_phone_78 : decode cX12_phone 78 = .ok (.iload_n 1, 1) := by decide +kernel
theorem dX12_phone_79 : decode cX12_phone 79 = .ok (.ishr, 1) := by decide +kernel
theorem dX12_phone_80 : decode cX12_phone 80 = .ok (.iconst 1, 1) := by decide +kernel
theorem dX12_phone_81 : decode cX12_phone 81 = .ok (.iand, 1) := by decide +kernel
theorem dX12_phone_82 : decode cX12_phone 82 = .ok (.ireturn, 1) := by decide +kernel
theorem dX12_call_0 : decode cX12_call 0 = .ok (.aload_n 0, 1) := by decide +kernel
theorem dX12_call_1 : decode cX12_call 1 = .ok (.iconst 0, 1) := by decide +kernel
theorem dX12_call_2 : decode cX12_call 2 = .ok (.putfield 61, 3) := by decide +kernel
theorem dX12_call_5 : decode cX12_call 5 = .ok (.iload_n 1, 1) := by decide +kernel
theorem dX12_call_6 : decode cX12_call 6 = .ok (.iconst 0, 1) := by decide +kernel
theorem dX12_call_7 : decode cX12_call 7 = .ok (.aload_n 0, 1) := by decide +kernel
theorem dX12_call_8 : decode cX12_call 8 = .ok (.getfield 130, 3) := by decide +kernel
theorem dX12_call_11 : decode cX12_call 11 = .ok (.iconst 1, 1) := by decide +kernel
theorem dX12_call_12 : decode cX12_call 12 = .ok (.isub, 1) := by decide +kernel
theorem dX12_call_13 : decode cX12_call 13 = .ok (.invokestatic 64, 3) := by decide +kernel
theorem dX12_call_16 : decode cX12_call 16 = .ok (.ifCond .eq 25, 3) := by decide +kernel
theorem dX12_call_19 : decode cX12_call 19 = .ok (.iload_n 2, 1) := by decide +kernel
theorem dX12_call_20 : decode cX12_call 20 = .ok (.iconst 0, 1) := by decide +kernel
theorem dX12_call_21 : decode cX12_call 21 = .ok (.iconst 2, 1) := by decide +kernel
theorem dX12_call_22 : decode cX12_call 22 = .ok (.invokestatic 64, 3) := by decide +kernel
theorem dX12_call_25 : decode cX12_call 25 = .ok (.ifCond .eq 16, 3) := by decide +kernel
theorem dX12_call_28 : decode cX12_call 28 = .ok (.aload_n 0, 1) := by decide +kernel
theorem dX12_call_29 : decode cX12_call 29 = .ok (.getfield 16, 3) := by decide +kernel
theorem dX12_call_32 : decode cX12_call 32 = .ok (.iconst 3, 1) := by decide +kernel
theorem dX12_call_33 : decode cX12_call 33 = .ok (.iload_n 1, 1) := by decide +kernel
theorem dX12_call_34 : decode cX12_call 34 = .ok (.imul, 1) := by decide +kernel
theorem dX12_call_35 : decode cX12_call 35 = .ok (.iload_n 2, 1) := by decide +kernel
theorem dX12_call_36 : decode cX12_call 36 = .ok (.iadd, 1) := by decide +kernel
theorem dX12_call_37 : decode cX12_call 37 = .ok (.iaload, 1) := by decide +kernel
theorem dX12_call_38 : decode cX12_call 38 = .ok (.goto 4, 3) := by decide +kernel
theorem dX12_call_41 : decode cX12_call 41 = .ok (.iconst (-1), 1) := by decide +kernel
theorem dX12_call_42 : decode cX12_call 42 = .ok (.ireturn, 1) := by decide +kernel
theorem dX12_isDark_0 : decode cX12_isDark 0 = .ok (.iconst 0, 1) := by decide +kernel
theorem dX12_isDark_1 : decode cX12_isDark 1 = .ok (.istore_n 2, 1) := by decide +kernel
theorem dX12_isDark_2 : decode cX12_isDark 2 = .ok (.iconst 0, 1) := by decide +kernel
theorem dX12_isDark_3 : decode cX12_isDark 3 = .ok (.istore_n 3, 1) := by decide +kernel
theorem dX12_isDark_4 : decode cX12_isDark 4 = .ok (.iload_n 3, 1) := by decide +kernel
theorem dX12_isDark_5 : decode cX12_isDark 5 = .ok (.aload_n 0, 1) := by decide +kernel
theorem dX12_isDark_6 : decode cX12_isDark 6 = .ok (.getfield 133, 3) := by decide +kernel
theorem dX12_isDark_9 : decode cX12_isDark 9 = .ok (.if_icmp .ge 44, 3) := by decide +kernel
theorem dX12_isDark_12 : decode cX12_isDark 12 = .ok (.iload_n 2, 1) := by decide +kernel
theorem dX12_isDark_13 : decode cX12_isDark 13 = .ok (.ifCond .ne 28, 3) := by decide +kernel
theorem dX12_isDark_16 : decode cX12_isDark 16 = .ok (.iload_n 1, 1) := by decide +kernel
theorem dX12_isDark_17 : decode cX12_isDark 17 = .ok (.aload_n 0, 1) := by decide +kernel
theorem dX12_isDark_18 : decode cX12_isDark 18 = .ok (.getfield 19, 3) := by decide +kernel
theorem dX12_isDark_21 : decode cX12_isDark 21 = .ok (.iconst 2, 1) := by decide +kernel
theorem dX12_isDark_22 : decode cX12_isDark 22 = .ok (.iload_n 3, 1) := by decide +kernel
theorem dX12_isDark_23 : decode cX12_isDark 23 = .ok (.imul, 1) := by decide +kernel
theorem dX12_isDark_24 : decode cX12_isDark 24 = .ok (.iaload, 1) := by decide +kernel
theorem dX12_isDark_25 : decode cX12_isDark 25 = .ok (.aload_n 0, 1) := by decide +kernel
theorem dX12_isDark_26 : decode cX12_isDark 26 = .ok (.getfield 19, 3) := by decide +kernel
theorem dX12_isDark_29 : decode cX12_isDark 29 = .ok (.iconst 2, 1) := by decide +kernel
theorem dX12_isDark_30 : decode cX12_isDark 30 = .ok (.iload_n 3, 1) := by decide +kernel
theorem dX12_isDark_31 : decode cX12_isDark 31 = .ok (.imul, 1) := by decide +kernel
theorem dX12_isDark_32 : decode cX12_isDark 32 = .ok (.iconst 1, 1) := by decide +kernel
theorem dX12_isDark_33 : decode cX12_isDark 33 = .ok (.iadd, 1) := by decide +kernel
theorem dX12_isDark_34 : decode cX12_isDark 34 = .ok (.iaload, 1) := by decide +kernel
theorem dX12_isDark_35 : decode cX12_isDark 35 = .ok (.invokestatic 64, 3) := by decide +kernel
theorem dX12_isDark_38 : decode cX12_isDark 38 = .ok (.ifCond .eq 7, 3) := by decide +kernel
theorem dX12_isDark_41 : decode cX12_isDark 41 = .ok (.iconst 1, 1) := by decide +kernel
theorem dX12_isDark_42 : decode cX12_isDark 42 = .ok (.goto 4, 3) := by decide +kernel
theorem dX12_isDark_45 : decode cX12_isDark 45 = .ok (.iconst 0, 1) := by decide +kernel
theorem dX12_isDark_46 : decode cX12_isDark 46 = .ok (.istore_n 2, 1) := by decide +kernel
theorem dX12_isDark_47 : decode cX12_isDark 47 = .ok (.iinc 3 1, 3) := by decide +kernel
theorem dX12_isDark_50 : decode cX12_isDark 50 = .ok (.goto (-46), 3) := by decide +kernel
theorem dX12_isDark_53 : decode cX12_isDark 53 = .ok (.iload_n 2, 1) := by decide +kernel
theorem dX12_isDark_54 : decode cX12_isDark 54 = .ok (.ireturn, 1) := by decide +kernel
theorem dX12_dark_0 : decode cX12_dark 0 = .ok (.aload_n 0, 1) := by decide +kernel
theorem dX12_dark_1 : decode cX12_dark 1 = .ok (.iconst 0, 1) := by decide +kernel
theorem dX12_dark_2 : decode cX12_dark 2 = .ok (.putfield 61, 3) := by decide +kernel
theorem dX12_dark_5 : decode cX12_dark 5 = .ok (.iload_n 1, 1) := by decide +kernel
theorem dX12_dark_6 : decode cX12_dark 6 = .ok (.iconst 0, 1) := by decide +kernel
theorem dX12_dark_7 : decode cX12_dark 7 = .ok (.sipush 160, 3) := by decide +kernel
theorem dX12_dark_10 : decode cX12_dark 10 = .ok (.invokestatic 64, 3) := by decide +kernel
theorem dX12_dark_13 : decode cX12_dark 13 = .ok (.ifCond .ne 7, 3) := by decide +kernel
theorem dX12_dark_16 : decode cX12_dark 16 = .ok (.iconst (-1), 1) := by decide +kernel
theorem dX12_dark_17 : decode cX12_dark 17 = .ok (.goto 16, 3) := by decide +kernel
theorem dX12_dark_20 : decode cX12_dark 20 = .ok (.aload_n 0, 1) := by decide +kernel
theorem dX12_dark_21 : decode cX12_dark 21 = .ok (.iload_n 1, 1) := by decide +kernel
theorem dX12_dark_22 : decode cX12_dark 22 = .ok (.invokevirtual 146, 3) := by decide +kernel
theorem dX12_dark_25 : decode cX12_dark 25 = .ok (.ifCond .eq 7, 3) := by decide +kernel
theorem dX12_dark_28 : decode cX12_dark 28 = .ok (.iconst 1, 1) := by decide +kernel
theorem dX12_dark_29 : decode cX12_dark 29 = .ok (.goto 4, 3) := by decide +kernel
theorem dX12_dark_32 : decode cX12_dark 32 = .ok (.iconst 0, 1) := by decide +kernel
theorem dX12_dark_33 : decode cX12_dark 33 = .ok (.ireturn, 1) := by decide +kernel
theorem dX12_filled_0 : decode cX12_filled 0 = .ok (.iload_n 1, 1) := by decide +kernel
theorem dX12_filled_1 : decode cX12_filled 1 = .ok (.iconst 2, 1) := by decide +kernel
theorem dX12_filled_2 : decode cX12_filled 2 = .ok (.idiv, 1) := by decide +kernel
theorem dX12_filled_3 : decode cX12_filled 3 = .ok (.iconst 1, 1) := by decide +kernel
theorem dX12_filled_4 : decode cX12_filled 4 = .ok (.if_icmp .ge 7, 3) := by decide +kernel
theorem dX12_filled_7 : decode cX12_filled 7 = .ok (.iconst 1, 1) := by decide +kernel
theorem dX12_filled_8 : decode cX12_filled 8 = .ok (.goto 6, 3) := by decide +kernel
theorem dX12_filled_11 : decode cX12_filled 11 = .ok (.iload_n 1, 1) := by decide +kernel
theorem dX12_filled_12 : decode cX12_filled 12 = .ok (.iconst 2, 1) := by decide +kernel
theorem dX12_filled_13 : decode cX12_filled 13 = .ok (.idiv, 1) := by decide +kernel
theorem dX12_filled_14 : decode cX12_filled 14 = .ok (.istore_n 2, 1) := by decide +kernel
theorem dX12_filled_15 : decode cX12_filled 15 = .ok (.iload_n 0, 1) := by decide +kernel
theorem dX12_filled_16 : decode cX12_filled 16 = .ok (.iload_n 0, 1) := by decide +kernel
theorem dX12_filled_17 : decode cX12_filled 17 = .ok (.bipush 80, 2) := by decide +kernel
theorem dX12_filled_19 : decode cX12_filled 19 = .ok (.if_icmp .ge 7, 3) := by decide +kernel
theorem dX12_filled_22 : decode cX12_filled 22 = .ok (.iload_n 1, 1) := by decide +kernel
theorem dX12_filled_23 : decode cX12_filled 23 = .ok (.goto 4, 3) := by decide +kernel
theorem dX12_filled_26 : decode cX12_filled 26 = .ok (.iload_n 2, 1) := by decide +kernel
theorem dX12_filled_27 : decode cX12_filled 27 = .ok (.iadd, 1) := by decide +kernel
theorem dX12_filled_28 : decode cX12_filled 28 = .ok (.istore_n 3, 1) := by decide +kernel
theorem dX12_filled_29 : decode cX12_filled 29 = .ok (.iload_n 3, 1) := by decide +kernel
theorem dX12_filled_30 : decode cX12_filled 30 = .ok (.bipush 100, 2) := by decide +kernel
theorem dX12_filled_32 : decode cX12_filled 32 = .ok (.if_icmp .le 8, 3) := by decide +kernel
theorem dX12_filled_35 : decode cX12_filled 35 = .ok (.bipush 100, 2) := by decide +kernel
theorem dX12_filled_37 : decode cX12_filled 37 = .ok (.goto 4, 3) := by decide +kernel
theorem dX12_filled_40 : decode cX12_filled 40 = .ok (.iload_n 3, 1) := by decide +kernel
theorem dX12_filled_41 : decode cX12_filled 41 = .ok (.ireturn, 1) := by decide +kernel
theorem dX12_lower_0 : decode cX12_lower 0 = .ok (.iload_n 0, 1) := by decide +kernel
theorem dX12_lower_1 : decode cX12_lower 1 = .ok (.iload_n 1, 1) := by decide +kernel
theorem dX12_lower_2 : decode cX12_lower 2 = .ok (.if_icmp .ge 7, 3) := by decide +kernel
theorem dX12_lower_5 : decode cX12_lower 5 = .ok (.iconst 0, 1) := by decide +kernel
theorem dX12_lower_6 : decode cX12_lower 6 = .ok (.goto 6, 3) := by decide +kernel
theorem dX12_lower_9 : decode cX12_lower 9 = .ok (.iload_n 0, 1) := by decide +kernel
theorem dX12_lower_10 : decode cX12_lower 10 = .ok (.iload_n 1, 1) := by decide +kernel
theorem dX12_lower_11 : decode cX12_lower 11 = .ok (.isub, 1) := by decide +kernel
theorem dX12_lower_12 : decode cX12_lower 12 = .ok (.ireturn, 1) := by decide +kernel
theorem dX12_goes_0 : decode cX12_goes 0 = .ok (.iconst 0, 1) := by decide +kernel
theorem dX12_goes_1 : decode cX12_goes 1 = .ok (.istore_n 2, 1) := by decide +kernel
theorem dX12_goes_2 : decode cX12_goes 2 = .ok (.iload_n 2, 1) := by decide +kernel
theorem dX12_goes_3 : decode cX12_goes 3 = .ok (.aload_n 0, 1) := by decide +kernel
theorem dX12_goes_4 : decode cX12_goes 4 = .ok (.getfield 130, 3) := by decide +kernel
theorem dX12_goes_7 : decode cX12_goes 7 = .ok (.if_icmp .ge 100, 3) := by decide +kernel
theorem dX12_goes_10 : decode cX12_goes 10 = .ok (.iconst 4, 1) := by decide +kernel
theorem dX12_goes_11 : decode cX12_goes 11 = .ok (.aload_n 0, 1) := by decide +kernel
theorem dX12_goes_12 : decode cX12_goes 12 = .ok (.getfield 16, 3) := by decide +kernel
theorem dX12_goes_15 : decode cX12_goes 15 = .ok (.iconst 3, 1) := by decide +kernel
theorem dX12_goes_16 : decode cX12_goes 16 = .ok (.iload_n 2, 1) := by decide +kernel
theorem dX12_goes_17 : decode cX12_goes 17 = .ok (.imul, 1) := by decide +kernel
theorem dX12_goes_18 : decode cX12_goes 18 = .ok (.iaload, 1) := by decide +kernel
theorem dX12_goes_19 : decode cX12_goes 19 = .ok (.iadd, 1) := by decide +kernel
theorem dX12_goes_20 : decode cX12_goes 20 = .ok (.istore_n 3, 1) := by decide +kernel
theorem dX12_goes_21 : decode cX12_goes 21 = .ok (.aload_n 0, 1) := by decide +kernel
theorem dX12_goes_22 : decode cX12_goes 22 = .ok (.getfield 16, 3) := by decide +kernel
theorem dX12_goes_25 : decode cX12_goes 25 = .ok (.iconst 3, 1) := by decide +kernel
theorem dX12_goes_26 : decode cX12_goes 26 = .ok (.iload_n 2, 1) := by decide +kernel
theorem dX12_goes_27 : decode cX12_goes 27 = .ok (.imul, 1) := by decide +kernel
theorem dX12_goes_28 : decode cX12_goes 28 = .ok (.iconst 1, 1) := by decide +kernel
theorem dX12_goes_29 : decode cX12_goes 29 = .ok (.iadd, 1) := by decide +kernel
theorem dX12_goes_30 : decode cX12_goes 30 = .ok (.iaload, 1) := by decide +kernel
theorem dX12_goes_31 : decode cX12_goes 31 = .ok (.aload_n 1, 1) := by decide +kernel
theorem dX12_goes_32 : decode cX12_goes 32 = .ok (.iconst 0, 1) := by decide +kernel
theorem dX12_goes_33 : decode cX12_goes 33 = .ok (.iaload, 1) := by decide +kernel
theorem dX12_goes_34 : decode cX12_goes 34 = .ok (.if_icmp .ne 67, 3) := by decide +kernel
theorem dX12_goes_37 : decode cX12_goes 37 = .ok (.aload_n 1, 1) := by decide +kernel
theorem dX12_goes_38 : decode cX12_goes 38 = .ok (.iload_n 3, 1) := by decide +kernel
theorem dX12_goes_39 : decode cX12_goes 39 = .ok (.iaload, 1) := by decide +kernel
theorem dX12_goes_40 : decode cX12_goes 40 = .ok (.aload_n 0, 1) := by decide +kernel
theorem dX12_goes_41 : decode cX12_goes 41 = .ok (.getfield 16, 3) := by decide +kernel
theorem dX12_goes_44 : decode cX12_goes 44 = .ok (.iconst 3, 1) := by decide +kernel
theorem dX12_goes_45 : decode cX12_goes 45 = .ok (.iload_n 2, 1) := by decide +kernel
theorem dX12_goes_46 : decode cX12_goes 46 = .ok (.imul, 1) := by decide +kernel
theorem dX12_goes_47 : decode cX12_goes 47 = .ok (.iconst 2, 1) := by decide +kernel
theorem dX12_goes_48 : decode cX12_goes 48 = .ok (.iadd, 1) := by decide +kernel
theorem dX12_goes_49 : decode cX12_goes 49 = .ok (.iaload, 1) := by decide +kernel
theorem dX12_goes_50 : decode cX12_goes 50 = .ok (.if_icmp .lt 7, 3) := by decide +kernel
theorem dX12_goes_53 : decode cX12_goes 53 = .ok (.iconst 1, 1) := by decide +kernel
theorem dX12_goes_54 : decode cX12_goes 54 = .ok (.goto 4, 3) := by decide +kernel
theorem dX12_goes_57 : decode cX12_goes 57 = .ok (.iconst 0, 1) := by decide +kernel
theorem dX12_goes_58 : decode cX12_goes 58 = .ok (.istore 4, 2) := by decide +kernel
theorem dX12_goes_60 : decode cX12_goes 60 = .ok (.aload_n 1, 1) := by decide +kernel
theorem dX12_goes_61 : decode cX12_goes 61 = .ok (.iload_n 3, 1) := by decide +kernel
theorem dX12_goes_62 : decode cX12_goes 62 = .ok (.dup2, 1) := by decide +kernel
theorem dX12_goes_63 : decode cX12_goes 63 = .ok (.iaload, 1) := by decide +kernel
theorem dX12_goes_64 : decode cX12_goes 64 = .ok (.iload 4, 2) := by decide +kernel
theorem dX12_goes_66 : decode cX12_goes 66 = .ok (.ifCond .eq 16, 3) := by decide +kernel
theorem dX12_goes_69 : decode cX12_goes 69 = .ok (.aload_n 0, 1) := by decide +kernel
theorem dX12_goes_70 : decode cX12_goes 70 = .ok (.getfield 16, 3) := by decide +kernel
theorem dX12_goes_73 : decode cX12_goes 73 = .ok (.iconst 3, 1) := by decide +kernel
theorem dX12_goes_74 : decode cX12_goes 74 = .ok (.iload_n 2, 1) := by decide +kernel
theorem dX12_goes_75 : decode cX12_goes 75 = .ok (.imul, 1) := by decide +kernel
theorem dX12_goes_76 : decode cX12_goes 76 = .ok (.iconst 2, 1) := by decide +kernel
theorem dX12_goes_77 : decode cX12_goes 77 = .ok (.iadd, 1) := by decide +kernel
theorem dX12_goes_78 : decode cX12_goes 78 = .ok (.iaload, 1) := by decide +kernel
theorem dX12_goes_79 : decode cX12_goes 79 = .ok (.goto 4, 3) := by decide +kernel
theorem dX12_goes_82 : decode cX12_goes 82 = .ok (.iconst 0, 1) := by decide +kernel
theorem dX12_goes_83 : decode cX12_goes 83 = .ok (.isub, 1) := by decide +kernel
theorem dX12_goes_84 : decode cX12_goes 84 = .ok (.iastore, 1) := by decide +kernel
theorem dX12_goes_85 : decode cX12_goes 85 = .ok (.aload_n 1, 1) := by decide +kernel
theorem dX12_goes_86 : decode cX12_goes 86 = .ok (.iconst 3, 1) := by decide +kernel
theorem dX12_goes_87 : decode cX12_goes 87 = .ok (.dup2, 1) := by decide +kernel
theorem dX12_goes_88 : decode cX12_goes 88 = .ok (.iaload, 1) := by decide +kernel
theorem dX12_goes_89 : decode cX12_goes 89 = .ok (.iload 4, 2) := by decide +kernel
theorem dX12_goes_91 : decode cX12_goes 91 = .ok (.ifCond .eq 7, 3) := by decide +kernel
theorem dX12_goes_94 : decode cX12_goes 94 = .ok (.iconst 0, 1) := by decide +kernel
theorem dX12_goes_95 : decode cX12_goes 95 = .ok (.goto 4, 3) := by decide +kernel
theorem dX12_goes_98 : decode cX12_goes 98 = .ok (.iconst 1, 1) := by decide +kernel
theorem dX12_goes_99 : decode cX12_goes 99 = .ok (.iadd, 1) := by decide +kernel
theorem dX12_goes_100 : decode cX12_goes 100 = .ok (.iastore, 1) := by decide +kernel
theorem dX12_goes_101 : decode cX12_goes 101 = .ok (.iinc 2 1, 3) := by decide +kernel
theorem dX12_goes_104 : decode cX12_goes 104 = .ok (.goto (-102), 3) := by decide +kernel
theorem dX12_goes_107 : decode cX12_goes 107 = .ok (.aload_n 0, 1) := by decide +kernel
theorem dX12_goes_108 : decode cX12_goes 108 = .ok (.aload_n 1, 1) := by decide +kernel
theorem dX12_goes_109 : decode cX12_goes 109 = .ok (.iconst 0, 1) := by decide +kernel
theorem dX12_goes_110 : decode cX12_goes 110 = .ok (.iaload, 1) := by decide +kernel
theorem dX12_goes_111 : decode cX12_goes 111 = .ok (.invokevirtual 146, 3) := by decide +kernel
theorem dX12_goes_114 : decode cX12_goes 114 = .ok (.istore_n 2, 1) := by decide +kernel
theorem dX12_goes_115 : decode cX12_goes 115 = .ok (.iconst 0, 1) := by decide +kernel
theorem dX12_goes_116 : decode cX12_goes 116 = .ok (.istore_n 3, 1) := by decide +kernel
theorem dX12_goes_117 : decode cX12_goes 117 = .ok (.iload_n 3, 1) := by decide +kernel
theorem dX12_goes_118 : decode cX12_goes 118 = .ok (.aload_n 0, 1) := by decide +kernel
theorem dX12_goes_119 : decode cX12_goes 119 = .ok (.getfield 127, 3) := by decide +kernel
theorem dX12_goes_122 : decode cX12_goes 122 = .ok (.if_icmp .ge 99, 3) := by decide +kernel
theorem dX12_goes_125 : decode cX12_goes 125 = .ok (.iload_n 2, 1) := by decide +kernel
theorem dX12_goes_126 : decode cX12_goes 126 = .ok (.ifCond .ne 18, 3) := by decide +kernel
theorem dX12_goes_129 : decode cX12_goes 129 = .ok (.aload_n 1, 1) := by decide +kernel
theorem dX12_goes_130 : decode cX12_goes 130 = .ok (.iconst 1, 1) := by decide +kernel
theorem dX12_goes_131 : decode cX12_goes 131 = .ok (.iaload, 1) := by decide +kernel
theorem dX12_goes_132 : decode cX12_goes 132 = .ok (.iload_n 3, 1) := by decide +kernel
theorem dX12_goes_133 : decode cX12_goes 133 = .ok (.ishr, 1) := by decide +kernel
theorem dX12_goes_134 : decode cX12_goes 134 = .ok (.iconst 1, 1) := by decide +kernel
theorem dX12_goes_135 : decode cX12_goes 135 = .ok (.iand, 1) := by decide +kernel
theorem dX12_goes_136 : decode cX12_goes 136 = .ok (.iconst 1, 1) := by decide +kernel
theorem dX12_goes_137 : decode cX12_goes 137 = .ok (.if_icmp .ne 7, 3) := by decide +kernel
theorem dX12_goes_140 : decode cX12_goes 140 = .ok (.iconst 1, 1) := by decide +kernel
theorem dX12_goes_141 : decode cX12_goes 141 = .ok (.goto 4, 3) := by decide +kernel
theorem dX12_goes_144 : decode cX12_goes 144 = .ok (.iconst 0, 1) := by decide +kernel
theorem dX12_goes_145 : decode cX12_goes 145 = .ok (.istore 4, 2) := by decide +kernel
theorem dX12_goes_147 : decode cX12_goes 147 = .ok (.aload_n 1, 1) := by decide +kernel
theorem dX12_goes_148 : decode cX12_goes 148 = .ok (.iconst 4, 1) := by decide +kernel
theorem dX12_goes_149 : decode cX12_goes 149 = .ok (.iload_n 3, 1) := by decide +kernel
theorem dX12_goes_150 : decode cX12_goes 150 = .ok (.iadd, 1) := by decide +kernel
theorem dX12_goes_151 : decode cX12_goes 151 = .ok (.iload 4, 2) := by decide +kernel
theorem dX12_goes_153 : decode cX12_goes 153 = .ok (.ifCond .eq 24, 3) := by decide +kernel
theorem dX12_goes_156 : decode cX12_goes 156 = .ok (.aload_n 1, 1) := by decide +kernel
theorem dX12_goes_157 : decode cX12_goes 157 = .ok (.iconst 4, 1) := by decide +kernel
theorem dX12_goes_158 : decode cX12_goes 158 = .ok (.iload_n 3, 1) := by decide +kernel
theorem dX12_goes_159 : decode cX12_goes 159 = .ok (.iadd, 1) := by decide +kernel
theorem dX12_goes_160 : decode cX12_goes 160 = .ok (.iaload, 1) := by decide +kernel
theorem dX12_goes_161 : decode cX12_goes 161 = .ok (.aload_n 0, 1) := by decide +kernel
theorem dX12_goes_162 : decode cX12_goes 162 = .ok (.getfield 13, 3) := by decide +kernel
theorem dX12_goes_165 : decode cX12_goes 165 = .ok (.iconst 3, 1) := by decide +kernel
theorem dX12_goes_166 : decode cX12_goes 166 = .ok (.iload_n 3, 1) := by decide +kernel
theorem dX12_goes_167 : decode cX12_goes 167 = .ok (.imul, 1) := by decide +kernel
theorem dX12_goes_168 : decode cX12_goes 168 = .ok (.iconst 1, 1) := by decide +kernel
theorem dX12_goes_169 : decode cX12_goes 169 = .ok (.iadd, 1) := by decide +kernel
theorem dX12_goes_170 : decode cX12_goes 170 = .ok (.iaload, 1) := by decide +kernel
theorem dX12_goes_171 : decode cX12_goes 171 = .ok (.invokestatic 149, 3) := by decide +kernel
theorem dX12_goes_174 : decode cX12_goes 174 = .ok (.goto 21, 3) := by decide +kernel
theorem dX12_goes_177 : decode cX12_goes 177 = .ok (.aload_n 1, 1) := by decide +kernel
theorem dX12_goes_178 : decode cX12_goes 178 = .ok (.iconst 4, 1) := by decide +kernel
theorem dX12_goes_179 : decode cX12_goes 179 = .ok (.iload_n 3, 1) := by decide +kernel
theorem dX12_goes_180 : decode cX12_goes 180 = .ok (.iadd, 1) := by decide +kernel
theorem dX12_goes_181 : decode cX12_goes 181 = .ok (.iaload, 1) := by decide +kernel
theorem dX12_goes_182 : decode cX12_goes 182 = .ok (.aload_n 0, 1) := by decide +kernel
theorem dX12_goes_183 : decode cX12_goes 183 = .ok (.getfield 13, 3) := by decide +kernel
theorem dX12_goes_186 : decode cX12_goes 186 = .ok (.iconst 3, 1) := by decide +kernel
theorem dX12_goes_187 : decode cX12_goes 187 = .ok (.iload_n 3, 1) := by decide +kernel
theorem dX12_goes_188 : decode cX12_goes 188 = .ok (.imul, 1) := by decide +kernel
theorem dX12_goes_189 : decode cX12_goes 189 = .ok (.iconst 2, 1) := by decide +kernel
theorem dX12_goes_190 : decode cX12_goes 190 = .ok (.iadd, 1) := by decide +kernel
theorem dX12_goes_191 : decode cX12_goes 191 = .ok (.iaload, 1) := by decide +kernel
theorem dX12_goes_192 : decode cX12_goes 192 = .ok (.invokestatic 152, 3) := by decide +kernel
theorem dX12_goes_195 : decode cX12_goes 195 = .ok (.iastore, 1) := by decide +kernel
theorem dX12_goes_196 : decode cX12_goes 196 = .ok (.aload_n 1, 1) := by decide +kernel
theorem dX12_goes_197 : decode cX12_goes 197 = .ok (.bipush 9, 2) := by decide +kernel
theorem dX12_goes_199 : decode cX12_goes 199 = .ok (.iload_n 3, 1) := by decide +kernel
theorem dX12_goes_200 : decode cX12_goes 200 = .ok (.iadd, 1) := by decide +kernel
theorem dX12_goes_201 : decode cX12_goes 201 = .ok (.dup2, 1) := by decide +kernel
theorem dX12_goes_202 : decode cX12_goes 202 = .ok (.iaload, 1) := by decide +kernel
theorem dX12_goes_203 : decode cX12_goes 203 = .ok (.iload 4, 2) := by decide +kernel
theorem dX12_goes_205 : decode cX12_goes 205 = .ok (.ifCond .eq 7, 3) := by decide +kernel
theorem dX12_goes_208 : decode cX12_goes 208 = .ok (.iconst 1, 1) := by decide +kernel
theorem dX12_goes_209 : decode cX12_goes 209 = .ok (.goto 4, 3) := by decide +kernel
theorem dX12_goes_212 : decode cX12_goes 212 = .ok (.iconst 0, 1) := by decide +kernel
theorem dX12_goes_213 : decode cX12_goes 213 = .ok (.iadd, 1) := by decide +kernel
theorem dX12_goes_214 : decode cX12_goes 214 = .ok (.iastore, 1) := by decide +kernel
theorem dX12_goes_215 : decode cX12_goes 215 = .ok (.iinc 3 1, 3) := by decide +kernel
theorem dX12_goes_218 : decode cX12_goes 218 = .ok (.goto (-101), 3) := by decide +kernel
theorem dX12_goes_221 : decode cX12_goes 221 = .ok (.aload_n 1, 1) := by decide +kernel
theorem dX12_goes_222 : decode cX12_goes 222 = .ok (.iconst 0, 1) := by decide +kernel
theorem dX12_goes_223 : decode cX12_goes 223 = .ok (.dup2, 1) := by decide +kernel
theorem dX12_goes_224 : decode cX12_goes 224 = .ok (.iaload, 1) := by decide +kernel
theorem dX12_goes_225 : decode cX12_goes 225 = .ok (.iconst 1, 1) := by decide +kernel
theorem dX12_goes_226 : decode cX12_goes 226 = .ok (.iadd, 1) := by decide +kernel
theorem dX12_goes_227 : decode cX12_goes 227 = .ok (.iastore, 1) := by decide +kernel
theorem dX12_goes_228 : decode cX12_goes 228 = .ok (.return_, 1) := by decide +kernel
theorem dX12_notes_0 : decode cX12_notes 0 = .ok (.aload_n 0, 1) := by decide +kernel
theorem dX12_notes_1 : decode cX12_notes 1 = .ok (.getfield 136, 3) := by decide +kernel
theorem dX12_notes_4 : decode cX12_notes 4 = .ok (.bipush 10, 2) := by decide +kernel
theorem dX12_notes_6 : decode cX12_notes 6 = .ok (.if_icmp .ne 38, 3) := by decide +kernel
theorem dX12_notes_9 : decode cX12_notes 9 = .ok (.iconst 0, 1) := by decide +kernel
theorem dX12_notes_10 : decode cX12_notes 10 = .ok (.istore_n 1, 1) := by decide +kernel
theorem dX12_notes_11 : decode cX12_notes 11 = .ok (.iload_n 1, 1) := by decide +kernel
theorem dX12_notes_12 : decode cX12_notes 12 = .ok (.bipush 126, 2) := by decide +kernel
theorem dX12_notes_14 : decode cX12_notes 14 = .ok (.if_icmp .ge 24, 3) := by decide +kernel
theorem dX12_notes_17 : decode cX12_notes 17 = .ok (.aload_n 0, 1) := by decide +kernel
theorem dX12_notes_18 : decode cX12_notes 18 = .ok (.getfield 35, 3) := by decide +kernel
theorem dX12_notes_21 : decode cX12_notes 21 = .ok (.iload_n 1, 1) := by decide +kernel
theorem dX12_notes_22 : decode cX12_notes 22 = .ok (.aload_n 0, 1) := by decide +kernel
theorem dX12_notes_23 : decode cX12_notes 23 = .ok (.getfield 35, 3) := by decide +kernel
theorem dX12_notes_26 : decode cX12_notes 26 = .ok (.iload_n 1, 1) := by decide +kernel
theorem dX12_notes_27 : decode cX12_notes 27 = .ok (.bipush 14, 2) := by decide +kernel
theorem dX12_notes_29 : decode cX12_notes 29 = .ok (.iadd, 1) := by decide +kernel
theorem dX12_notes_30 : decode cX12_notes 30 = .ok (.iaload, 1) := by decide +kernel
theorem dX12_notes_31 : decode cX12_notes 31 = .ok (.iastore, 1) := by decide +kernel
theorem dX12_notes_32 : decode cX12_notes 32 = .ok (.iinc 1 1, 3) := by decide +kernel
theorem dX12_notes_35 : decode cX12_notes 35 = .ok (.goto (-24), 3) := by decide +kernel
theorem dX12_notes_38 : decode cX12_notes 38 = .ok (.aload_n 0, 1) := by decide +kernel
theorem dX12_notes_39 : decode cX12_notes 39 = .ok (.bipush 9, 2) := by decide +kernel
theorem dX12_notes_41 : decode cX12_notes 41 = .ok (.putfield 136, 3) := by decide +kernel
theorem dX12_notes_44 : decode cX12_notes 44 = .ok (.iconst 0, 1) := by decide +kernel
theorem dX12_notes_45 : decode cX12_notes 45 = .ok (.istore_n 1, 1) := by decide +kernel
theorem dX12_notes_46 : decode cX12_notes 46 = .ok (.iload_n 1, 1) := by decide +kernel
theorem dX12_notes_47 : decode cX12_notes 47 = .ok (.bipush 14, 2) := by decide +kernel
theorem dX12_notes_49 : decode cX12_notes 49 = .ok (.if_icmp .ge 29, 3) := by decide +kernel
theorem dX12_notes_52 : decode cX12_notes 52 = .ok (.aload_n 0, 1) := by decide +kernel
theorem dX12_notes_53 : decode cX12_notes 53 = .ok (.getfield 35, 3) := by decide +kernel
theorem dX12_notes_56 : decode cX12_notes 56 = .ok (.bipush 14, 2) := by decide +kernel
theorem dX12_notes_58 : decode cX12_notes 58 = .ok (.aload_n 0, 1) := by decide +kernel
theorem dX12_notes_59 : decode cX12_notes 59 = .ok (.getfield 136, 3) := by decide +kernel
theorem dX12_notes_62 : decode cX12_notes 62 = .ok (.imul, 1) := by decide +kernel
theorem dX12_notes_63 : decode cX12_notes 63 = .ok (.iload_n 1, 1) := by decide +kernel
theorem dX12_notes_64 : decode cX12_notes 64 = .ok (.iadd, 1) := by decide +kernel
theorem dX12_notes_65 : decode cX12_notes 65 = .ok (.aload_n 0, 1) := by decide +kernel
theorem dX12_notes_66 : decode cX12_notes 66 = .ok (.getfield 22, 3) := by decide +kernel
theorem dX12_notes_69 : decode cX12_notes 69 = .ok (.iload_n 1, 1) := by decide +kernel
theorem dX12_notes_70 : decode cX12_notes 70 = .ok (.iaload, 1) := by decide +kernel
theorem dX12_notes_71 : decode cX12_notes 71 = .ok (.iastore, 1) := by decide +kernel
theorem dX12_notes_72 : decode cX12_notes 72 = .ok (.iinc 1 1, 3) := by decide +kernel
theorem dX12_notes_75 : decode cX12_notes 75 = .ok (.goto (-29), 3) := by decide +kernel
theorem dX12_notes_78 : decode cX12_notes 78 = .ok (.aload_n 0, 1) := by decide +kernel
theorem dX12_notes_79 : decode cX12_notes 79 = .ok (.dup, 1) := by decide +kernel
theorem dX12_notes_80 : decode cX12_notes 80 = .ok (.getfield 136, 3) := by decide +kernel
theorem dX12_notes_83 : decode cX12_notes 83 = .ok (.iconst 1, 1) := by decide +kernel
theorem dX12_notes_84 : decode cX12_notes 84 = .ok (.iadd, 1) := by decide +kernel
theorem dX12_notes_85 : decode cX12_notes 85 = .ok (.putfield 136, 3) := by decide +kernel
theorem dX12_notes_88 : decode cX12_notes 88 = .ok (.return_, 1) := by decide +kernel
theorem dX12_sets_0 : decode cX12_sets 0 = .ok (.aload_n 0, 1) := by decide +kernel
theorem dX12_sets_1 : decode cX12_sets 1 = .ok (.iconst 2, 1) := by decide +kernel
theorem dX12_sets_2 : decode cX12_sets 2 = .ok (.dup2, 1) := by decide +kernel
theorem dX12_sets_3 : decode cX12_sets 3 = .ok (.iaload, 1) := by decide +kernel
theorem dX12_sets_4 : decode cX12_sets 4 = .ok (.aload_n 0, 1) := by decide +kernel
theorem dX12_sets_5 : decode cX12_sets 5 = .ok (.iconst 1, 1) := by decide +kernel
theorem dX12_sets_6 : decode cX12_sets 6 = .ok (.iaload, 1) := by decide +kernel
theorem dX12_sets_7 : decode cX12_sets 7 = .ok (.iload_n 1, 1) := by decide +kernel
theorem dX12_sets_8 : decode cX12_sets 8 = .ok (.if_icmp .ne 7, 3) := by decide +kernel
theorem dX12_sets_11 : decode cX12_sets 11 = .ok (.iconst 0, 1) := by decide +kernel
theorem dX12_sets_12 : decode cX12_sets 12 = .ok (.goto 4, 3) := by decide +kernel
theorem dX12_sets_15 : decode cX12_sets 15 = .ok (.iconst 1, 1) := by decide +kernel
theorem dX12_sets_16 : decode cX12_sets 16 = .ok (.iadd, 1) := by decide +kernel
theorem dX12_sets_17 : decode cX12_sets 17 = .ok (.iastore, 1) := by decide +kernel
theorem dX12_sets_18 : decode cX12_sets 18 = .ok (.aload_n 0, 1) := by decide +kernel
theorem dX12_sets_19 : decode cX12_sets 19 = .ok (.iconst 1, 1) := by decide +kernel
theorem dX12_sets_20 : decode cX12_sets 20 = .ok (.iload_n 1, 1) := by decide +kernel
theorem dX12_sets_21 : decode cX12_sets 21 = .ok (.iastore, 1) := by decide +kernel
theorem dX12_sets_22 : decode cX12_sets 22 = .ok (.return_, 1) := by decide +kernel
theorem dX12_isSet_0 : decode cX12_isSet 0 = .ok (.iload_n 1, 1) := by decide +kernel
theorem dX12_isSet_1 : decode cX12_isSet 1 = .ok (.iconst 0, 1) := by decide +kernel
theorem dX12_isSet_2 : decode cX12_isSet 2 = .ok (.iconst 1, 1) := by decide +kernel
theorem dX12_isSet_3 : decode cX12_isSet 3 = .ok (.aload_n 0, 1) := by decide +kernel
theorem dX12_isSet_4 : decode cX12_isSet 4 = .ok (.getfield 127, 3) := by decide +kernel
theorem dX12_isSet_7 : decode cX12_isSet 7 = .ok (.ishl, 1) := by decide +kernel
theorem dX12_isSet_8 : decode cX12_isSet 8 = .ok (.iconst 1, 1) := by decide +kernel
theorem dX12_isSet_9 : decode cX12_isSet 9 = .ok (.isub, 1) := by decide +kernel
theorem dX12_isSet_10 : decode cX12_isSet 10 = .ok (.invokestatic 64, 3) := by decide +kernel
theorem dX12_isSet_13 : decode cX12_isSet 13 = .ok (.ifCond .eq 18, 3) := by decide +kernel
theorem dX12_isSet_16 : decode cX12_isSet 16 = .ok (.iload_n 1, 1) := by decide +kernel
theorem dX12_isSet_17 : decode cX12_isSet 17 = .ok (.invokestatic 155, 3) := by decide +kernel
theorem dX12_isSet_20 : decode cX12_isSet 20 = .ok (.aload_n 0, 1) := by decide +kernel
theorem dX12_isSet_21 : decode cX12_isSet 21 = .ok (.getfield 57, 3) := by decide +kernel
theorem dX12_isSet_24 : decode cX12_isSet 24 = .ok (.if_icmp .gt 7, 3) := by decide +kernel
theorem dX12_isSet_27 : decode cX12_isSet 27 = .ok (.iconst 1, 1) := by decide +kernel
theorem dX12_isSet_28 : decode cX12_isSet 28 = .ok (.goto 4, 3) := by decide +kernel
theorem dX12_isSet_31 : decode cX12_isSet 31 = .ok (.iconst 0, 1) := by decide +kernel
theorem dX12_isSet_32 : decode cX12_isSet 32 = .ok (.ireturn, 1) := by decide +kernel
theorem dX12_puts_0 : decode cX12_puts 0 = .ok (.aload_n 0, 1) := by decide +kernel
theorem dX12_puts_1 : decode cX12_puts 1 = .ok (.iconst 0, 1) := by decide +kernel
theorem dX12_puts_2 : decode cX12_puts 2 = .ok (.putfield 61, 3) := by decide +kernel
theorem dX12_puts_5 : decode cX12_puts 5 = .ok (.aload_n 0, 1) := by decide +kernel
theorem dX12_puts_6 : decode cX12_puts 6 = .ok (.iload_n 1, 1) := by decide +kernel
theorem dX12_puts_7 : decode cX12_puts 7 = .ok (.invokevirtual 158, 3) := by decide +kernel
theorem dX12_puts_10 : decode cX12_puts 10 = .ok (.ifCond .ne 5, 3) := by decide +kernel
theorem dX12_puts_13 : decode cX12_puts 13 = .ok (.iconst (-1), 1) := by decide +kernel
theorem dX12_puts_14 : decode cX12_puts 14 = .ok (.ireturn, 1) := by decide +kernel
theorem dX12_puts_15 : decode cX12_puts 15 = .ok (.aload_n 0, 1) := by decide +kernel
theorem dX12_puts_16 : decode cX12_puts 16 = .ok (.invokevirtual 161, 3) := by decide +kernel
theorem dX12_puts_19 : decode cX12_puts 19 = .ok (.aload_n 0, 1) := by decide +kernel
theorem dX12_puts_20 : decode cX12_puts 20 = .ok (.getfield 22, 3) := by decide +kernel
theorem dX12_puts_23 : decode cX12_puts 23 = .ok (.iload_n 1, 1) := by decide +kernel
theorem dX12_puts_24 : decode cX12_puts 24 = .ok (.invokestatic 164, 3) := by decide +kernel
theorem dX12_puts_27 : decode cX12_puts 27 = .ok (.aload_n 0, 1) := by decide +kernel
theorem dX12_puts_28 : decode cX12_puts 28 = .ok (.getfield 22, 3) := by decide +kernel
theorem dX12_puts_31 : decode cX12_puts 31 = .ok (.iconst 2, 1) := by decide +kernel
theorem dX12_puts_32 : decode cX12_puts 32 = .ok (.iaload, 1) := by decide +kernel
theorem dX12_puts_33 : decode cX12_puts 33 = .ok (.ireturn, 1) := by decide +kernel
theorem dX12_outOnes_0 : decode cX12_outOnes 0 = .ok (.iconst 0, 1) := by decide +kernel
theorem dX12_outOnes_1 : decode cX12_outOnes 1 = .ok (.istore_n 2, 1) := by decide +kernel
theorem dX12_outOnes_2 : decode cX12_outOnes 2 = .ok (.iconst 0, 1) := by decide +kernel
theorem dX12_outOnes_3 : decode cX12_outOnes 3 = .ok (.istore_n 3, 1) := by decide +kernel
theorem dX12_outOnes_4 : decode cX12_outOnes 4 = .ok (.iload_n 3, 1) := by decide +kernel
theorem dX12_outOnes_5 : decode cX12_outOnes 5 = .ok (.aload_n 0, 1) := by decide +kernel
theorem dX12_outOnes_6 : decode cX12_outOnes 6 = .ok (.getfield 127, 3) := by decide +kernel
theorem dX12_outOnes_9 : decode cX12_outOnes 9 = .ok (.if_icmp .ge 27, 3) := by decide +kernel
theorem dX12_outOnes_12 : decode cX12_outOnes 12 = .ok (.iload_n 2, 1) := by decide +kernel
theorem dX12_outOnes_13 : decode cX12_outOnes 13 = .ok (.aload_n 1, 1) := by decide +kernel
theorem dX12_outOnes_14 : decode cX12_outOnes 14 = .ok (.iconst 4, 1) := by decide +kernel
theorem dX12_outOnes_15 : decode cX12_outOnes 15 = .ok (.iload_n 3, 1) := by decide +kernel
theorem dX12_outOnes_16 : decode cX12_outOnes 16 = .ok (.iadd, 1) := by decide +kernel
theorem dX12_outOnes_17 : decode cX12_outOnes 17 = .ok (.iaload, 1) := by decide +kernel
theorem dX12_outOnes_18 : decode cX12_outOnes 18 = .ok (.ifCond .ne 9, 3) := by decide +kernel
theorem dX12_outOnes_21 : decode cX12_outOnes 21 = .ok (.iconst 1, 1) := by decide +kernel
theorem dX12_outOnes_22 : decode cX12_outOnes 22 = .ok (.iload_n 3, 1) := by decide +kernel
theorem dX12_outOnes_23 : decode cX12_outOnes 23 = .ok (.ishl, 1) := by decide +kernel
theorem dX12_outOnes_24 : decode cX12_outOnes 24 = .ok (.goto 4, 3) := by decide +kernel
theorem dX12_outOnes_27 : decode cX12_outOnes 27 = .ok (.iconst 0, 1) := by decide +kernel
theorem dX12_outOnes_28 : decode cX12_outOnes 28 = .ok (.ior, 1) := by decide +kernel
theorem dX12_outOnes_29 : decode cX12_outOnes 29 = .ok (.istore_n 2, 1) := by decide +kernel
theorem dX12_outOnes_30 : decode cX12_outOnes 30 = .ok (.iinc 3 1, 3) := by decide +kernel
theorem dX12_outOnes_33 : decode cX12_outOnes 33 = .ok (.goto (-29), 3) := by decide +kernel
theorem dX12_outOnes_36 : decode cX12_outOnes 36 = .ok (.iload_n 2, 1) := by decide +kernel
theorem dX12_outOnes_37 : decode cX12_outOnes 37 = .ok (.ireturn, 1) := by decide +kernel
theorem dX12_turn_0 : decode cX12_turn 0 = .ok (.aload_n 0, 1) := by decide +kernel
theorem dX12_turn_1 : decode cX12_turn 1 = .ok (.iconst 0, 1) := by decide +kernel
theorem dX12_turn_2 : decode cX12_turn 2 = .ok (.putfield 61, 3) := by decide +kernel
theorem dX12_turn_5 : decode cX12_turn 5 = .ok (.aload_n 0, 1) := by decide +kernel
theorem dX12_turn_6 : decode cX12_turn 6 = .ok (.getfield 22, 3) := by decide +kernel
theorem dX12_turn_9 : decode cX12_turn 9 = .ok (.iconst 0, 1) := by decide +kernel
theorem dX12_turn_10 : decode cX12_turn 10 = .ok (.iaload, 1) := by decide +kernel
theorem dX12_turn_11 : decode cX12_turn 11 = .ok (.bipush 99, 2) := by decide +kernel
theorem dX12_turn_13 : decode cX12_turn 13 = .ok (.if_icmp .ne 6, 3) := by decide +kernel
theorem dX12_turn_16 : decode cX12_turn 16 = .ok (.bipush (-2), 2) := by decide +kernel
theorem dX12_turn_18 : decode cX12_turn 18 = .ok (.ireturn, 1) := by decide +kernel
theorem dX12_turn_19 : decode cX12_turn 19 = .ok (.aload_n 0, 1) := by decide +kernel
theorem dX12_turn_20 : decode cX12_turn 20 = .ok (.invokevirtual 161, 3) := by decide +kernel
theorem dX12_turn_23 : decode cX12_turn 23 = .ok (.aload_n 0, 1) := by decide +kernel
theorem dX12_turn_24 : decode cX12_turn 24 = .ok (.aload_n 0, 1) := by decide +kernel
theorem dX12_turn_25 : decode cX12_turn 25 = .ok (.getfield 22, 3) := by decide +kernel
theorem dX12_turn_28 : decode cX12_turn 28 = .ok (.invokevirtual 168, 3) := by decide +kernel
theorem dX12_turn_31 : decode cX12_turn 31 = .ok (.aload_n 0, 1) := by decide +kernel
theorem dX12_turn_32 : decode cX12_turn 32 = .ok (.aload_n 0, 1) := by decide +kernel
theorem dX12_turn_33 : decode cX12_turn 33 = .ok (.getfield 22, 3) := by decide +kernel
theorem dX12_turn_36 : decode cX12_turn 36 = .ok (.invokevirtual 172, 3) := by decide +kernel
theorem dX12_turn_39 : decode cX12_turn 39 = .ok (.invokestatic 155, 3) := by decide +kernel
theorem dX12_turn_42 : decode cX12_turn 42 = .ok (.ireturn, 1) := by decide +kernel
theorem dX12_lends_0 : decode cX12_lends 0 = .ok (.aload_n 0, 1) := by decide +kernel
theorem dX12_lends_1 : decode cX12_lends 1 = .ok (.iconst 0, 1) := by decide +kernel
theorem dX12_lends_2 : decode cX12_lends 2 = .ok (.putfield 61, 3) := by decide +kernel
theorem dX12_lends_5 : decode cX12_lends 5 = .ok (.aload_n 0, 1) := by decide +kernel
theorem dX12_lends_6 : decode cX12_lends 6 = .ok (.iload_n 1, 1) := by decide +kernel
theorem dX12_lends_7 : decode cX12_lends 7 = .ok (.invokevirtual 142, 3) := by decide +kernel
theorem dX12_lends_10 : decode cX12_lends 10 = .ok (.ifCond .eq 13, 3) := by decide +kernel
theorem dX12_lends_13 : decode cX12_lends 13 = .ok (.iload_n 2, 1) := by decide +kernel
theorem dX12_lends_14 : decode cX12_lends 14 = .ok (.iconst 1, 1) := by decide +kernel
theorem dX12_lends_15 : decode cX12_lends 15 = .ok (.bipush 50, 2) := by decide +kernel
theorem dX12_lends_17 : decode cX12_lends 17 = .ok (.invokestatic 64, 3) := by decide +kernel
theorem dX12_lends_20 : decode cX12_lends 20 = .ok (.ifCond .ne 5, 3) := by decide +kernel
theorem dX12_lends_23 : decode cX12_lends 23 = .ok (.iconst (-1), 1) := by decide +kernel
theorem dX12_lends_24 : decode cX12_lends 24 = .ok (.ireturn, 1) := by decide +kernel
theorem dX12_lends_25 : decode cX12_lends 25 = .ok (.aload_n 0, 1) := by decide +kernel
theorem dX12_lends_26 : decode cX12_lends 26 = .ok (.getfield 22, 3) := by decide +kernel
theorem dX12_lends_29 : decode cX12_lends 29 = .ok (.iconst 4, 1) := by decide +kernel
theorem dX12_lends_30 : decode cX12_lends 30 = .ok (.iload_n 1, 1) := by decide +kernel
theorem dX12_lends_31 : decode cX12_lends 31 = .ok (.iadd, 1) := by decide +kernel
theorem dX12_lends_32 : decode cX12_lends 32 = .ok (.iaload, 1) := by decide +kernel
theorem dX12_lends_33 : decode cX12_lends 33 = .ok (.iload_n 2, 1) := by decide +kernel
theorem dX12_lends_34 : decode cX12_lends 34 = .ok (.if_icmp .ge 6, 3) := by decide +kernel
theorem dX12_lends_37 : decode cX12_lends 37 = .ok (.bipush (-2), 2) := by decide +kernel
theorem dX12_lends_39 : decode cX12_lends 39 = .ok (.ireturn, 1) := by decide +kernel
theorem dX12_lends_40 : decode cX12_lends 40 = .ok (.aload_n 0, 1) := by decide +kernel
theorem dX12_lends_41 : decode cX12_lends 41 = .ok (.invokevirtual 161, 3) := by decide +kernel
theorem dX12_lends_44 : decode cX12_lends 44 = .ok (.aload_n 0, 1) := by decide +kernel
theorem dX12_lends_45 : decode cX12_lends 45 = .ok (.getfield 22, 3) := by decide +kernel
theorem dX12_lends_48 : decode cX12_lends 48 = .ok (.iconst 4, 1) := by decide +kernel
theorem dX12_lends_49 : decode cX12_lends 49 = .ok (.iload_n 1, 1) := by decide +kernel
theorem dX12_lends_50 : decode cX12_lends 50 = .ok (.iadd, 1) := by decide +kernel
theorem dX12_lends_51 : decode cX12_lends 51 = .ok (.dup2, 1) := by decide +kernel
theorem dX12_lends_52 : decode cX12_lends 52 = .ok (.iaload, 1) := by decide +kernel
theorem dX12_lends_53 : decode cX12_lends 53 = .ok (.iload_n 2, 1) := by decide +kernel
theorem dX12_lends_54 : decode cX12_lends 54 = .ok (.isub, 1) := by decide +kernel
theorem dX12_lends_55 : decode cX12_lends 55 = .ok (.iastore, 1) := by decide +kernel
theorem dX12_lends_56 : decode cX12_lends 56 = .ok (.aload_n 0, 1) := by decide +kernel
theorem dX12_lends_57 : decode cX12_lends 57 = .ok (.getfield 22, 3) := by decide +kernel
theorem dX12_lends_60 : decode cX12_lends 60 = .ok (.iconst 4, 1) := by decide +kernel
theorem dX12_lends_61 : decode cX12_lends 61 = .ok (.iload_n 1, 1) := by decide +kernel
theorem dX12_lends_62 : decode cX12_lends 62 = .ok (.iadd, 1) := by decide +kernel
theorem dX12_lends_63 : decode cX12_lends 63 = .ok (.iaload, 1) := by decide +kernel
theorem dX12_lends_64 : decode cX12_lends 64 = .ok (.ireturn, 1) := by decide +kernel
theorem dX12_undo_0 : decode cX12_undo 0 = .ok (.aload_n 0, 1) := by decide +kernel
theorem dX12_undo_1 : decode cX12_undo 1 = .ok (.iconst 0, 1) := by decide +kernel
theorem dX12_undo_2 : decode cX12_undo 2 = .ok (.putfield 61, 3) := by decide +kernel
theorem dX12_undo_5 : decode cX12_undo 5 = .ok (.aload_n 0, 1) := by decide +kernel
theorem dX12_undo_6 : decode cX12_undo 6 = .ok (.getfield 136, 3) := by decide +kernel
theorem dX12_undo_9 : decode cX12_undo 9 = .ok (.ifCond .ne 6, 3) := by decide +kernel
theorem dX12_undo_12 : decode cX12_undo 12 = .ok (.bipush (-2), 2) := by decide +kernel
theorem dX12_undo_14 : decode cX12_undo 14 = .ok (.ireturn, 1) := by decide +kernel
theorem dX12_undo_15 : decode cX12_undo 15 = .ok (.aload_n 0, 1) := by decide +kernel
theorem dX12_undo_16 : decode cX12_undo 16 = .ok (.dup, 1) := by decide +kernel
theorem dX12_undo_17 : decode cX12_undo 17 = .ok (.getfield 136, 3) := by decide +kernel
theorem dX12_undo_20 : decode cX12_undo 20 = .ok (.iconst 1, 1) := by decide +kernel
theorem dX12_undo_21 : decode cX12_undo 21 = .ok (.isub, 1) := by decide +kernel
theorem dX12_undo_22 : decode cX12_undo 22 = .ok (.putfield 136, 3) := by decide +kernel
theorem dX12_undo_25 : decode cX12_undo 25 = .ok (.iconst 0, 1) := by decide +kernel
theorem dX12_undo_26 : decode cX12_undo 26 = .ok (.istore_n 1, 1) := by decide +kernel
theorem dX12_undo_27 : decode cX12_undo 27 = .ok (.iload_n 1, 1) := by decide +kernel
theorem dX12_undo_28 : decode cX12_undo 28 = .ok (.bipush 14, 2) := by decide +kernel
theorem dX12_undo_30 : decode cX12_undo 30 = .ok (.if_icmp .ge 29, 3) := by decide +kernel
theorem dX12_undo_33 : decode cX12_undo 33 = .ok (.aload_n 0, 1) := by decide +kernel
theorem dX12_undo_34 : decode cX12_undo 34 = .ok (.getfield 22, 3) := by decide +kernel
theorem dX12_undo_37 : decode cX12_undo 37 = .ok (.iload_n 1, 1) := by decide +kernel
theorem dX12_undo_38 : decode cX12_undo 38 = .ok (.aload_n 0, 1) := by decide +kernel
theorem dX12_undo_39 : decode cX12_undo 39 = .ok (.getfield 35, 3) := by decide +kernel
theorem dX12_undo_42 : decode cX12_undo 42 = .ok (.bipush 14, 2) := by decide +kernel
theorem dX12_undo_44 : decode cX12_undo 44 = .ok (.aload_n 0, 1) := by decide +kernel
theorem dX12_undo_45 : decode cX12_undo 45 = .ok (.getfield 136, 3) := by decide +kernel
theorem dX12_undo_48 : decode cX12_undo 48 = .ok (.imul, 1) := by decide +kernel
theorem dX12_undo_49 : decode cX12_undo 49 = .ok (.iload_n 1, 1) := by decide +kernel
theorem dX12_undo_50 : decode cX12_undo 50 = .ok (.iadd, 1) := by decide +kernel
theorem dX12_undo_51 : decode cX12_undo 51 = .ok (.iaload, 1) := by decide +kernel
theorem dX12_undo_52 : decode cX12_undo 52 = .ok (.iastore, 1) := by decide +kernel
theorem dX12_undo_53 : decode cX12_undo 53 = .ok (.iinc 1 1, 3) := by decide +kernel
theorem dX12_undo_56 : decode cX12_undo 56 = .ok (.goto (-29), 3) := by decide +kernel
theorem dX12_undo_59 : decode cX12_undo 59 = .ok (.aload_n 0, 1) := by decide +kernel
theorem dX12_undo_60 : decode cX12_undo 60 = .ok (.getfield 136, 3) := by decide +kernel
theorem dX12_undo_63 : decode cX12_undo 63 = .ok (.ireturn, 1) := by decide +kernel
theorem dX12_fair_0 : decode cX12_fair 0 = .ok (.iconst 0, 1) := by decide +kernel
theorem dX12_fair_1 : decode cX12_fair 1 = .ok (.istore_n 1, 1) := by decide +kernel
theorem dX12_fair_2 : decode cX12_fair 2 = .ok (.sipush 1000, 3) := by decide +kernel
theorem dX12_fair_5 : decode cX12_fair 5 = .ok (.istore_n 2, 1) := by decide +kernel
theorem dX12_fair_6 : decode cX12_fair 6 = .ok (.iconst 0, 1) := by decide +kernel
theorem dX12_fair_7 : decode cX12_fair 7 = .ok (.istore_n 3, 1) := by decide +kernel
theorem dX12_fair_8 : decode cX12_fair 8 = .ok (.iload_n 3, 1) := by decide +kernel
theorem dX12_fair_9 : decode cX12_fair 9 = .ok (.aload_n 0, 1) := by decide +kernel
theorem dX12_fair_10 : decode cX12_fair 10 = .ok (.getfield 127, 3) := by decide +kernel
theorem dX12_fair_13 : decode cX12_fair 13 = .ok (.if_icmp .ge 63, 3) := by decide +kernel
theorem dX12_fair_16 : decode cX12_fair 16 = .ok (.aload_n 0, 1) := by decide +kernel
theorem dX12_fair_17 : decode cX12_fair 17 = .ok (.getfield 22, 3) := by decide +kernel
theorem dX12_fair_20 : decode cX12_fair 20 = .ok (.bipush 9, 2) := by decide +kernel
theorem dX12_fair_22 : decode cX12_fair 22 = .ok (.iload_n 3, 1) := by decide +kernel
theorem dX12_fair_23 : decode cX12_fair 23 = .ok (.iadd, 1) := by decide +kernel
theorem dX12_fair_24 : decode cX12_fair 24 = .ok (.iaload, 1) := by decide +kernel
theorem dX12_fair_25 : decode cX12_fair 25 = .ok (.iload_n 1, 1) := by decide +kernel
theorem dX12_fair_26 : decode cX12_fair 26 = .ok (.if_icmp .le 15, 3) := by decide +kernel
theorem dX12_fair_29 : decode cX12_fair 29 = .ok (.aload_n 0, 1) := by decide +kernel
theorem dX12_fair_30 : decode cX12_fair 30 = .ok (.getfield 22, 3) := by decide +kernel
theorem dX12_fair_33 : decode cX12_fair 33 = .ok (.bipush 9, 2) := by decide +kernel
theorem dX12_fair_35 : decode cX12_fair 35 = .ok (.iload_n 3, 1) := by decide +kernel
theorem dX12_fair_36 : decode cX12_fair 36 = .ok (.iadd, 1) := by decide +kernel
theorem dX12_fair_37 : decode cX12_fair 37 = .ok (.iaload, 1) := by decide +kernel
theorem dX12_fair_38 : decode cX12_fair 38 = .ok (.goto 4, 3) := by decide +kernel
theorem dX12_fair_41 : decode cX12_fair 41 = .ok (.iload_n 1, 1) := by decide +kernel
theorem dX12_fair_42 : decode cX12_fair 42 = .ok (.istore_n 1, 1) := by decide +kernel
theorem dX12_fair_43 : decode cX12_fair 43 = .ok (.aload_n 0, 1) := by decide +kernel
theorem dX12_fair_44 : decode cX12_fair 44 = .ok (.getfield 22, 3) := by decide +kernel
theorem dX12_fair_47 : decode cX12_fair 47 = .ok (.bipush 9, 2) := by decide +kernel
theorem dX12_fair_49 : decode cX12_fair 49 = .ok (.iload_n 3, 1) := by decide +kernel
theorem dX12_fair_50 : decode cX12_fair 50 = .ok (.iadd, 1) := by decide +kernel
theorem dX12_fair_51 : decode cX12_fair 51 = .ok (.iaload, 1) := by decide +kernel
theorem dX12_fair_52 : decode cX12_fair 52 = .ok (.iload_n 2, 1) := by decide +kernel
theorem dX12_fair_53 : decode cX12_fair 53 = .ok (.if_icmp .ge 15, 3) := by decide +kernel
theorem dX12_fair_56 : decode cX12_fair 56 = .ok (.aload_n 0, 1) := by decide +kernel
theorem dX12_fair_57 : decode cX12_fair 57 = .ok (.getfield 22, 3) := by decide +kernel
theorem dX12_fair_60 : decode cX12_fair 60 = .ok (.bipush 9, 2) := by decide +kernel
theorem dX12_fair_62 : decode cX12_fair 62 = .ok (.iload_n 3, 1) := by decide +kernel
theorem dX12_fair_63 : decode cX12_fair 63 = .ok (.iadd, 1) := by decide +kernel
theorem dX12_fair_64 : decode cX12_fair 64 = .ok (.iaload, 1) := by decide +kernel
theorem dX12_fair_65 : decode cX12_fair 65 = .ok (.goto 4, 3) := by decide +kernel
theorem dX12_fair_68 : decode cX12_fair 68 = .ok (.iload_n 2, 1) := by decide +kernel
theorem dX12_fair_69 : decode cX12_fair 69 = .ok (.istore_n 2, 1) := by decide +kernel
theorem dX12_fair_70 : decode cX12_fair 70 = .ok (.iinc 3 1, 3) := by decide +kernel
theorem dX12_fair_73 : decode cX12_fair 73 = .ok (.goto (-65), 3) := by decide +kernel
theorem dX12_fair_76 : decode cX12_fair 76 = .ok (.aload_n 0, 1) := by decide +kernel
theorem dX12_fair_77 : decode cX12_fair 77 = .ok (.getfield 127, 3) := by decide +kernel
theorem dX12_fair_80 : decode cX12_fair 80 = .ok (.ifCond .ne 7, 3) := by decide +kernel
theorem dX12_fair_83 : decode cX12_fair 83 = .ok (.iconst 0, 1) := by decide +kernel
theorem dX12_fair_84 : decode cX12_fair 84 = .ok (.goto 6, 3) := by decide +kernel
theorem dX12_fair_87 : decode cX12_fair 87 = .ok (.iload_n 1, 1) := by decide +kernel
theorem dX12_fair_88 : decode cX12_fair 88 = .ok (.iload_n 2, 1) := by decide +kernel
theorem dX12_fair_89 : decode cX12_fair 89 = .ok (.isub, 1) := by decide +kernel
theorem dX12_fair_90 : decode cX12_fair 90 = .ok (.ireturn, 1) := by decide +kernel
theorem dX12_leans_0 : decode cX12_leans 0 = .ok (.iconst 0, 1) := by decide +kernel
theorem dX12_leans_1 : decode cX12_leans 1 = .ok (.istore_n 1, 1) := by decide +kernel
theorem dX12_leans_2 : decode cX12_leans 2 = .ok (.iconst 0, 1) := by decide +kernel
theorem dX12_leans_3 : decode cX12_leans 3 = .ok (.istore_n 2, 1) := by decide +kernel
theorem dX12_leans_4 : decode cX12_leans 4 = .ok (.iconst 1, 1) := by decide +kernel
theorem dX12_leans_5 : decode cX12_leans 5 = .ok (.istore_n 3, 1) := by decide +kernel
theorem dX12_leans_6 : decode cX12_leans 6 = .ok (.iload_n 3, 1) := by decide +kernel
theorem dX12_leans_7 : decode cX12_leans 7 = .ok (.aload_n 0, 1) := by decide +kernel
theorem dX12_leans_8 : decode cX12_leans 8 = .ok (.getfield 127, 3) := by decide +kernel
theorem dX12_leans_11 : decode cX12_leans 11 = .ok (.if_icmp .ge 59, 3) := by decide +kernel
theorem dX12_leans_14 : decode cX12_leans 14 = .ok (.aload_n 0, 1) := by decide +kernel
theorem dX12_leans_15 : decode cX12_leans 15 = .ok (.getfield 22, 3) := by decide +kernel
theorem dX12_leans_18 : decode cX12_leans 18 = .ok (.iconst 4, 1) := by decide +kernel
theorem dX12_leans_19 : decode cX12_leans 19 = .ok (.iload_n 3, 1) := by decide +kernel
theorem dX12_leans_20 : decode cX12_leans 20 = .ok (.iadd, 1) := by decide +kernel
theorem dX12_leans_21 : decode cX12_leans 21 = .ok (.iaload, 1) := by decide +kernel
theorem dX12_leans_22 : decode cX12_leans 22 = .ok (.aload_n 0, 1) := by decide +kernel
theorem dX12_leans_23 : decode cX12_leans 23 = .ok (.getfield 22, 3) := by decide +kernel
theorem dX12_leans_26 : decode cX12_leans 26 = .ok (.iconst 4, 1) := by decide +kernel
theorem dX12_leans_27 : decode cX12_leans 27 = .ok (.iload_n 1, 1) := by decide +kernel
theorem dX12_leans_28 : decode cX12_leans 28 = .ok (.iadd, 1) := by decide +kernel
theorem dX12_leans_29 : decode cX12_leans 29 = .ok (.iaload, 1) := by decide +kernel
theorem dX12_leans_30 : decode cX12_leans 30 = .ok (.if_icmp .le 7, 3) := by decide +kernel
theorem dX12_leans_33 : decode cX12_leans 33 = .ok (.iload_n 3, 1) := by decide +kernel
theorem dX12_leans_34 : decode cX12_leans 34 = .ok (.goto 4, 3) := by decide +kernel
theorem dX12_leans_37 : decode cX12_leans 37 = .ok (.iload_n 1, 1) := by decide +kernel
theorem dX12_leans_38 : decode cX12_leans 38 = .ok (.istore_n 1, 1) := by decide +kernel
theorem dX12_leans_39 : decode cX12_leans 39 = .ok (.aload_n 0, 1) := by decide +kernel
theorem dX12_leans_40 : decode cX12_leans 40 = .ok (.getfield 22, 3) := by decide +kernel
theorem dX12_leans_43 : decode cX12_leans 43 = .ok (.iconst 4, 1) := by decide +kernel
theorem dX12_leans_44 : decode cX12_leans 44 = .ok (.iload_n 3, 1) := by decide +kernel
theorem dX12_leans_45 : decode cX12_leans 45 = .ok (.iadd, 1) := by decide +kernel
theorem dX12_leans_46 : decode cX12_leans 46 = .ok (.iaload, 1) := by decide +kernel
theorem dX12_leans_47 : decode cX12_leans 47 = .ok (.aload_n 0, 1) := by decide +kernel
theorem dX12_leans_48 : decode cX12_leans 48 = .ok (.getfield 22, 3) := by decide +kernel
theorem dX12_leans_51 : decode cX12_leans 51 = .ok (.iconst 4, 1) := by decide +kernel
theorem dX12_leans_52 : decode cX12_leans 52 = .ok (.iload_n 2, 1) := by decide +kernel
theorem dX12_leans_53 : decode cX12_leans 53 = .ok (.iadd, 1) := by decide +kernel
theorem dX12_leans_54 : decode cX12_leans 54 = .ok (.iaload, 1) := by decide +kernel
theorem dX12_leans_55 : decode cX12_leans 55 = .ok (.if_icmp .ge 7, 3) := by decide +kernel
theorem dX12_leans_58 : decode cX12_leans 58 = .ok (.iload_n 3, 1) := by decide +kernel
theorem dX12_leans_59 : decode cX12_leans 59 = .ok (.goto 4, 3) := by decide +kernel
theorem dX12_leans_62 : decode cX12_leans 62 = .ok (.iload_n 2, 1) := by decide +kernel
theorem dX12_leans_63 : decode cX12_leans 63 = .ok (.istore_n 2, 1) := by decide +kernel
theorem dX12_leans_64 : decode cX12_leans 64 = .ok (.iinc 3 1, 3) := by decide +kernel
theorem dX12_leans_67 : decode cX12_leans 67 = .ok (.goto (-61), 3) := by decide +kernel
theorem dX12_leans_70 : decode cX12_leans 70 = .ok (.aload_n 0, 1) := by decide +kernel
theorem dX12_leans_71 : decode cX12_leans 71 = .ok (.getfield 127, 3) := by decide +kernel
theorem dX12_leans_74 : decode cX12_leans 74 = .ok (.iconst 2, 1) := by decide +kernel
theorem dX12_leans_75 : decode cX12_leans 75 = .ok (.if_icmp .ge 8, 3) := by decide +kernel
theorem dX12_leans_78 : decode cX12_leans 78 = .ok (.bipush (-9), 2) := by decide +kernel
theorem dX12_leans_80 : decode cX12_leans 80 = .ok (.goto 9, 3) := by decide +kernel
theorem dX12_leans_83 : decode cX12_leans 83 = .ok (.bipush 10, 2) := by decide +kernel
theorem dX12_leans_85 : decode cX12_leans 85 = .ok (.iload_n 1, 1) := by decide +kernel
theorem dX12_leans_86 : decode cX12_leans 86 = .ok (.imul, 1) := by decide +kernel
theorem dX12_leans_87 : decode cX12_leans 87 = .ok (.iload_n 2, 1) := by decide +kernel
theorem dX12_leans_88 : decode cX12_leans 88 = .ok (.iadd, 1) := by decide +kernel
theorem dX12_leans_89 : decode cX12_leans 89 = .ok (.ireturn, 1) := by decide +kernel
theorem dX12_now_0 : decode cX12_now 0 = .ok (.aload_n 0, 1) := by decide +kernel
theorem dX12_now_1 : decode cX12_now 1 = .ok (.iconst 0, 1) := by decide +kernel
theorem dX12_now_2 : decode cX12_now 2 = .ok (.putfield 61, 3) := by decide +kernel
theorem dX12_now_5 : decode cX12_now 5 = .ok (.iload_n 1, 1) := by decide +kernel
theorem dX12_now_6 : decode cX12_now 6 = .ok (.iconst 0, 1) := by decide +kernel
theorem dX12_now_7 : decode cX12_now 7 = .ok (.bipush 7, 2) := by decide +kernel
theorem dX12_now_9 : decode cX12_now 9 = .ok (.invokestatic 64, 3) := by decide +kernel
theorem dX12_now_12 : decode cX12_now 12 = .ok (.ifCond .ne 5, 3) := by decide +kernel
theorem dX12_now_15 : decode cX12_now 15 = .ok (.iconst (-1), 1) := by decide +kernel
theorem dX12_now_16 : decode cX12_now 16 = .ok (.ireturn, 1) := by decide +kernel
theorem dX12_now_17 : decode cX12_now 17 = .ok (.iload_n 1, 1) := by decide +kernel
theorem dX12_now_18 : decode cX12_now 18 = .ok (.iconst 4, 1) := by decide +kernel
theorem dX12_now_19 : decode cX12_now 19 = .ok (.if_icmp .ge 53, 3) := by decide +kernel
theorem dX12_now_22 : decode cX12_now 22 = .ok (.iload_n 1, 1) := by decide +kernel
theorem dX12_now_23 : decode cX12_now 23 = .ok (.ifCond .ne 12, 3) := by decide +kernel
theorem dX12_now_26 : decode cX12_now 26 = .ok (.aload_n 0, 1) := by decide +kernel
theorem dX12_now_27 : decode cX12_now 27 = .ok (.getfield 22, 3) := by decide +kernel
theorem dX12_now_30 : decode cX12_now 30 = .ok (.iconst 0, 1) := by decide +kernel
theorem dX12_now_31 : decode cX12_now 31 = .ok (.iaload, 1) := by decide +kernel
theorem dX12_now_32 : decode cX12_now 32 = .ok (.goto 39, 3) := by decide +kernel
theorem dX12_now_35 : decode cX12_now 35 = .ok (.iload_n 1, 1) := by decide +kernel
theorem dX12_now_36 : decode cX12_now 36 = .ok (.iconst 1, 1) := by decide +kernel
theorem dX12_now_37 : decode cX12_now 37 = .ok (.if_icmp .ne 12, 3) := by decide +kernel
theorem dX12_now_40 : decode cX12_now 40 = .ok (.aload_n 0, 1) := by decide +kernel
theorem dX12_now_41 : decode cX12_now 41 = .ok (.getfield 22, 3) := by decide +kernel
theorem dX12_now_44 : decode cX12_now 44 = .ok (.iconst 1, 1) := by decide +kernel
theorem dX12_now_45 : decode cX12_now 45 = .ok (.iaload, 1) := by decide +kernel
theorem dX12_now_46 : decode cX12_now 46 = .ok (.goto 25, 3) := by decide +kernel
theorem dX12_now_49 : decode cX12_now 49 = .ok (.iload_n 1, 1) := by decide +kernel
theorem dX12_now_50 : decode cX12_now 50 = .ok (.iconst 2, 1) := by decide +kernel
theorem dX12_now_51 : decode cX12_now 51 = .ok (.if_icmp .ne 14, 3) := by decide +kernel
theorem dX12_now_54 : decode cX12_now 54 = .ok (.aload_n 0, 1) := by decide +kernel
theorem dX12_now_55 : decode cX12_now 55 = .ok (.aload_n 0, 1) := by decide +kernel
theorem dX12_now_56 : decode cX12_now 56 = .ok (.getfield 22, 3) := by decide +kernel
theorem dX12_now_59 : decode cX12_now 59 = .ok (.invokevirtual 172, 3) := by decide +kernel
theorem dX12_now_62 : decode cX12_now 62 = .ok (.goto 9, 3) := by decide +kernel
theorem dX12_now_65 : decode cX12_now 65 = .ok (.aload_n 0, 1) := by decide +kernel
theorem dX12_now_66 : decode cX12_now 66 = .ok (.getfield 22, 3) := by decide +kernel
theorem dX12_now_69 : decode cX12_now 69 = .ok (.iconst 3, 1) := by decide +kernel
theorem dX12_now_70 : decode cX12_now 70 = .ok (.iaload, 1) := by decide +kernel
theorem dX12_now_71 : decode cX12_now 71 = .ok (.ireturn, 1) := by decide +kernel
theorem dX12_now_72 : decode cX12_now 72 = .ok (.iload_n 1, 1) := by decide +kernel
theorem dX12_now_73 : decode cX12_now 73 = .ok (.iconst 4, 1) := by decide +kernel
theorem dX12_now_74 : decode cX12_now 74 = .ok (.if_icmp .ne 12, 3) := by decide +kernel
theorem dX12_now_77 : decode cX12_now 77 = .ok (.aload_n 0, 1) := by decide +kernel
theorem dX12_now_78 : decode cX12_now 78 = .ok (.getfield 22, 3) := by decide +kernel
theorem dX12_now_81 : decode cX12_now 81 = .ok (.iconst 2, 1) := by decide +kernel
theorem dX12_now_82 : decode cX12_now 82 = .ok (.iaload, 1) := by decide +kernel
theorem dX12_now_83 : decode cX12_now 83 = .ok (.goto 32, 3) := by decide +kernel
theorem dX12_now_86 : decode cX12_now 86 = .ok (.iload_n 1, 1) := by decide +kernel
theorem dX12_now_87 : decode cX12_now 87 = .ok (.iconst 5, 1) := by decide +kernel
theorem dX12_now_88 : decode cX12_now 88 = .ok (.if_icmp .ne 10, 3) := by decide +kernel
theorem dX12_now_91 : decode cX12_now 91 = .ok (.aload_n 0, 1) := by decide +kernel
theorem dX12_now_92 : decode cX12_now 92 = .ok (.invokevirtual 176, 3) := by decide +kernel
theorem dX12_now_95 : decode cX12_now 95 = .ok (.goto 20, 3) := by decide +kernel
theorem dX12_now_98 : decode cX12_now 98 = .ok (.iload_n 1, 1) := by decide +kernel
theorem dX12_now_99 : decode cX12_now 99 = .ok (.bipush 6, 2) := by decide +kernel
theorem dX12_now_101 : decode cX12_now 101 = .ok (.if_icmp .ne 10, 3) := by decide +kernel
theorem dX12_now_104 : decode cX12_now 104 = .ok (.aload_n 0, 1) := by decide +kernel
theorem dX12_now_105 : decode cX12_now 105 = .ok (.invokevirtual 180, 3) := by decide +kernel
theorem dX12_now_108 : decode cX12_now 108 = .ok (.goto 7, 3) := by decide +kernel
theorem dX12_now_111 : decode cX12_now 111 = .ok (.aload_n 0, 1) := by decide +kernel
theorem dX12_now_112 : decode cX12_now 112 = .ok (.getfield 136, 3) := by decide +kernel
theorem dX12_now_115 : decode cX12_now 115 = .ok (.ireturn, 1) := by decide +kernel
theorem dX12_asNow_0 : decode cX12_asNow 0 = .ok (.iconst 0, 1) := by decide +kernel
theorem dX12_asNow_1 : decode cX12_asNow 1 = .ok (.istore_n 1, 1) := by decide +kernel
theorem dX12_asNow_2 : decode cX12_asNow 2 = .ok (.iload_n 1, 1) := by decide +kernel
theorem dX12_asNow_3 : decode cX12_asNow 3 = .ok (.bipush 14, 2) := by decide +kernel
theorem dX12_asNow_5 : decode cX12_asNow 5 = .ok (.if_icmp .ge 21, 3) := by decide +kernel
theorem dX12_asNow_8 : decode cX12_asNow 8 = .ok (.aload_n 0, 1) := by decide +kernel
theorem dX12_asNow_9 : decode cX12_asNow 9 = .ok (.getfield 25, 3) := by decide +kernel
theorem dX12_asNow_12 : decode cX12_asNow 12 = .ok (.iload_n 1, 1) := by decide +kernel
theorem dX12_asNow_13 : decode cX12_asNow 13 = .ok (.aload_n 0, 1) := by decide +kernel
theorem dX12_asNow_14 : decode cX12_asNow 14 = .ok (.getfield 22, 3) := by decide +kernel
theorem dX12_asNow_17 : decode cX12_asNow 17 = .ok (.iload_n 1, 1) := by decide +kernel
theorem dX12_asNow_18 : decode cX12_asNow 18 = .ok (.iaload, 1) := by decide +kernel
theorem dX12_asNow_19 : decode cX12_asNow 19 = .ok (.iastore, 1) := by decide +kernel
theorem dX12_asNow_20 : decode cX12_asNow 20 = .ok (.iinc 1 1, 3) := by decide +kernel
theorem dX12_asNow_23 : decode cX12_asNow 23 = .ok (.goto (-21), 3) := by decide +kernel
theorem dX12_asNow_26 : decode cX12_asNow 26 = .ok (.return_, 1) := by decide +kernel
theorem dX12_power_0 : decode cX12_power 0 = .ok (.iconst 1, 1) := by decide +kernel
theorem dX12_power_1 : decode cX12_power 1 = .ok (.istore_n 2, 1) := by decide +kernel
theorem dX12_power_2 : decode cX12_power 2 = .ok (.iconst 0, 1) := by decide +kernel
theorem dX12_power_3 : decode cX12_power 3 = .ok (.istore_n 3, 1) := by decide +kernel
theorem dX12_power_4 : decode cX12_power 4 = .ok (.iload_n 3, 1) := by decide +kernel
theorem dX12_power_5 : decode cX12_power 5 = .ok (.iload_n 1, 1) := by decide +kernel
theorem dX12_power_6 : decode cX12_power 6 = .ok (.if_icmp .ge 13, 3) := by decide +kernel
theorem dX12_power_9 : decode cX12_power 9 = .ok (.iload_n 2, 1) := by decide +kernel
theorem dX12_power_10 : decode cX12_power 10 = .ok (.iload_n 0, 1) := by decide +kernel
theorem dX12_power_11 : decode cX12_power 11 = .ok (.imul, 1) := by decide +kernel
theorem dX12_power_12 : decode cX12_power 12 = .ok (.istore_n 2, 1) := by decide +kernel
theorem dX12_power_13 : decode cX12_power 13 = .ok (.iinc 3 1, 3) := by decide +kernel
theorem dX12_power_16 : decode cX12_power 16 = .ok (.goto (-12), 3) := by decide +kernel
theorem dX12_power_19 : decode cX12_power 19 = .ok (.iload_n 2, 1) := by decide +kernel
theorem dX12_power_20 : decode cX12_power 20 = .ok (.ireturn, 1) := by decide +kernel
theorem dX12_choose_0 : decode cX12_choose 0 = .ok (.aload_n 0, 1) := by decide +kernel
theorem dX12_choose_1 : decode cX12_choose 1 = .ok (.iconst 0, 1) := by decide +kernel
theorem dX12_choose_2 : decode cX12_choose 2 = .ok (.putfield 183, 3) := by decide +kernel
theorem dX12_choose_5 : decode cX12_choose 5 = .ok (.iconst 0, 1) := by decide +kernel
theorem dX12_choose_6 : decode cX12_choose 6 = .ok (.istore_n 1, 1) := by decide +kernel
theorem dX12_choose_7 : decode cX12_choose 7 = .ok (.iload_n 1, 1) := by decide +kernel
theorem dX12_choose_8 : decode cX12_choose 8 = .ok (.iconst 1, 1) := by decide +kernel
theorem dX12_choose_9 : decode cX12_choose 9 = .ok (.aload_n 0, 1) := by decide +kernel
theorem dX12_choose_10 : decode cX12_choose 10 = .ok (.getfield 127, 3) := by decide +kernel
theorem dX12_choose_13 : decode cX12_choose 13 = .ok (.ishl, 1) := by decide +kernel
theorem dX12_choose_14 : decode cX12_choose 14 = .ok (.if_icmp .ge 37, 3) := by decide +kernel
theorem dX12_choose_17 : decode cX12_choose 17 = .ok (.aload_n 0, 1) := by decide +kernel
theorem dX12_choose_18 : decode cX12_choose 18 = .ok (.iload_n 1, 1) := by decide +kernel
theorem dX12_choose_19 : decode cX12_choose 19 = .ok (.invokevirtual 158, 3) := by decide +kernel
theorem dX12_choose_22 : decode cX12_choose 22 = .ok (.ifCond .eq 23, 3) := by decide +kernel
theorem dX12_choose_25 : decode cX12_choose 25 = .ok (.aload_n 0, 1) := by decide +kernel
theorem dX12_choose_26 : decode cX12_choose 26 = .ok (.getfield 54, 3) := by decide +kernel
theorem dX12_choose_29 : decode cX12_choose 29 = .ok (.aload_n 0, 1) := by decide +kernel
theorem dX12_choose_30 : decode cX12_choose 30 = .ok (.getfield 183, 3) := by decide +kernel
theorem dX12_choose_33 : decode cX12_choose 33 = .ok (.iload_n 1, 1) := by decide +kernel
theorem dX12_choose_34 : decode cX12_choose 34 = .ok (.iastore, 1) := by decide +kernel
theorem dX12_choose_35 : decode cX12_choose 35 = .ok (.aload_n 0, 1) := by decide +kernel
theorem dX12_choose_36 : decode cX12_choose 36 = .ok (.dup, 1) := by decide +kernel
theorem dX12_choose_37 : decode cX12_choose 37 = .ok (.getfield 183, 3) := by decide +kernel
theorem dX12_choose_40 : decode cX12_choose 40 = .ok (.iconst 1, 1) := by decide +kernel
theorem dX12_choose_41 : decode cX12_choose 41 = .ok (.iadd, 1) := by decide +kernel
theorem dX12_choose_42 : decode cX12_choose 42 = .ok (.putfield 183, 3) := by decide +kernel
theorem dX12_choose_45 : decode cX12_choose 45 = .ok (.iinc 1 1, 3) := by decide +kernel
theorem dX12_choose_48 : decode cX12_choose 48 = .ok (.goto (-41), 3) := by decide +kernel
theorem dX12_choose_51 : decode cX12_choose 51 = .ok (.return_, 1) := by decide +kernel
theorem dX12_tries_0 : decode cX12_tries 0 = .ok (.aload_n 0, 1) := by decide +kernel
theorem dX12_tries_1 : decode cX12_tries 1 = .ok (.getfield 183, 3) := by decide +kernel
theorem dX12_tries_4 : decode cX12_tries 4 = .ok (.iload_n 2, 1) := by decide +kernel
theorem dX12_tries_5 : decode cX12_tries 5 = .ok (.invokestatic 186, 3) := by decide +kernel
theorem dX12_tries_8 : decode cX12_tries 8 = .ok (.istore_n 3, 1) := by decide +kernel
theorem dX12_tries_9 : decode cX12_tries 9 = .ok (.aload_n 0, 1) := by decide +kernel
theorem dX12_tries_10 : decode cX12_tries 10 = .ok (.invokevirtual 189, 3) := by decide +kernel
theorem dX12_tries_13 : decode cX12_tries 13 = .ok (.iconst 0, 1) := by decide +kernel
theorem dX12_tries_14 : decode cX12_tries 14 = .ok (.istore 4, 2) := by decide +kernel
theorem dX12_tries_16 : decode cX12_tries 16 = .ok (.iload 4, 2) := by decide +kernel
theorem dX12_tries_18 : decode cX12_tries 18 = .ok (.iload_n 2, 1) := by decide +kernel
theorem dX12_tries_19 : decode cX12_tries 19 = .ok (.if_icmp .ge 58, 3) := by decide +kernel
theorem dX12_tries_22 : decode cX12_tries 22 = .ok (.iload_n 3, 1) := by decide +kernel
theorem dX12_tries_23 : decode cX12_tries 23 = .ok (.aload_n 0, 1) := by decide +kernel
theorem dX12_tries_24 : decode cX12_tries 24 = .ok (.getfield 183, 3) := by decide +kernel
theorem dX12_tries_27 : decode cX12_tries 27 = .ok (.idiv, 1) := by decide +kernel
theorem dX12_tries_28 : decode cX12_tries 28 = .ok (.istore_n 3, 1) := by decide +kernel
theorem dX12_tries_29 : decode cX12_tries 29 = .ok (.aload_n 0, 1) := by decide +kernel
theorem dX12_tries_30 : decode cX12_tries 30 = .ok (.getfield 41, 3) := by decide +kernel
theorem dX12_tries_33 : decode cX12_tries 33 = .ok (.iload 4, 2) := by decide +kernel
theorem dX12_tries_35 : decode cX12_tries 35 = .ok (.aload_n 0, 1) := by decide +kernel
theorem dX12_tries_36 : decode cX12_tries 36 = .ok (.getfield 54, 3) := by decide +kernel
theorem dX12_tries_39 : decode cX12_tries 39 = .ok (.iload_n 1, 1) := by decide +kernel
theorem dX12_tries_40 : decode cX12_tries 40 = .ok (.iload_n 3, 1) := by decide +kernel
theorem dX12_tries_41 : decode cX12_tries 41 = .ok (.idiv, 1) := by decide +kernel
theorem dX12_tries_42 : decode cX12_tries 42 = .ok (.aload_n 0, 1) := by decide +kernel
theorem dX12_tries_43 : decode cX12_tries 43 = .ok (.getfield 183, 3) := by decide +kernel
theorem dX12_tries_46 : decode cX12_tries 46 = .ok (.irem, 1) := by decide +kernel
theorem dX12_tries_47 : decode cX12_tries 47 = .ok (.iaload, 1) := by decide +kernel
theorem dX12_tries_48 : decode cX12_tries 48 = .ok (.iastore, 1) := by decide +kernel
theorem dX12_tries_49 : decode cX12_tries 49 = .ok (.aload_n 0, 1) := by decide +kernel
theorem dX12_tries_50 : decode cX12_tries 50 = .ok (.getfield 25, 3) := by decide +kernel
theorem dX12_tries_53 : decode cX12_tries 53 = .ok (.aload_n 0, 1) := by decide +kernel
theorem dX12_tries_54 : decode cX12_tries 54 = .ok (.getfield 41, 3) := by decide +kernel
theorem dX12_tries_57 : decode cX12_tries 57 = .ok (.iload 4, 2) := by decide +kernel
theorem dX12_tries_59 : decode cX12_tries 59 = .ok (.iaload, 1) := by decide +kernel
theorem dX12_tries_60 : decode cX12_tries 60 = .ok (.invokestatic 164, 3) := by decide +kernel
theorem dX12_tries_63 : decode cX12_tries 63 = .ok (.aload_n 0, 1) := by decide +kernel
theorem dX12_tries_64 : decode cX12_tries 64 = .ok (.aload_n 0, 1) := by decide +kernel
theorem dX12_tries_65 : decode cX12_tries 65 = .ok (.getfield 25, 3) := by decide +kernel
theorem dX12_tries_68 : decode cX12_tries 68 = .ok (.invokevirtual 168, 3) := by decide +kernel
theorem dX12_tries_71 : decode cX12_tries 71 = .ok (.iinc 4 1, 3) := by decide +kernel
theorem dX12_tries_74 : decode cX12_tries 74 = .ok (.goto (-58), 3) := by decide +kernel
theorem dX12_tries_77 : decode cX12_tries 77 = .ok (.return_, 1) := by decide +kernel
theorem dX12_plans_0 : decode cX12_plans 0 = .ok (.aload_n 0, 1) := by decide +kernel
theorem dX12_plans_1 : decode cX12_plans 1 = .ok (.invokevirtual 192, 3) := by decide +kernel
theorem dX12_plans_4 : decode cX12_plans 4 = .ok (.aload_n 0, 1) := by decide +kernel
theorem dX12_plans_5 : decode cX12_plans 5 = .ok (.getfield 183, 3) := by decide +kernel
theorem dX12_plans_8 : decode cX12_plans 8 = .ok (.iload_n 1, 1) := by decide +kernel
theorem dX12_plans_9 : decode cX12_plans 9 = .ok (.invokestatic 186, 3) := by decide +kernel
theorem dX12_plans_12 : decode cX12_plans 12 = .ok (.istore_n 2, 1) := by decide +kernel
theorem dX12_plans_13 : decode cX12_plans 13 = .ok (.iconst 0, 1) := by decide +kernel
theorem dX12_plans_14 : decode cX12_plans 14 = .ok (.istore_n 3, 1) := by decide +kernel
theorem dX12_plans_15 : decode cX12_plans 15 = .ok (.iload_n 3, 1) := by decide +kernel
theorem dX12_plans_16 : decode cX12_plans 16 = .ok (.iload_n 2, 1) := by decide +kernel
theorem dX12_plans_17 : decode cX12_plans 17 = .ok (.if_icmp .ge 166, 3) := by decide +kernel
theorem dX12_plans_20 : decode cX12_plans 20 = .ok (.aload_n 0, 1) := by decide +kernel
theorem dX12_plans_21 : decode cX12_plans 21 = .ok (.iload_n 3, 1) := by decide +kernel
theorem dX12_plans_22 : decode cX12_plans 22 = .ok (.iload_n 1, 1) := by decide +kernel
theorem dX12_plans_23 : decode cX12_plans 23 = .ok (.invokevirtual 195, 3) := by decide +kernel
theorem dX12_plans_26 : decode cX12_plans 26 = .ok (.aload_n 0, 1) := by decide +kernel
theorem dX12_plans_27 : decode cX12_plans 27 = .ok (.getfield 25, 3) := by decide +kernel
theorem dX12_plans_30 : decode cX12_plans 30 = .ok (.iconst 3, 1) := by decide +kernel
theorem dX12_plans_31 : decode cX12_plans 31 = .ok (.iaload, 1) := by decide +kernel
theorem dX12_plans_32 : decode cX12_plans 32 = .ok (.aload_n 0, 1) := by decide +kernel
theorem dX12_plans_33 : decode cX12_plans 33 = .ok (.getfield 22, 3) := by decide +kernel
theorem dX12_plans_36 : decode cX12_plans 36 = .ok (.iconst 3, 1) := by decide +kernel
theorem dX12_plans_37 : decode cX12_plans 37 = .ok (.iaload, 1) := by decide +kernel
theorem dX12_plans_38 : decode cX12_plans 38 = .ok (.isub, 1) := by decide +kernel
theorem dX12_plans_39 : decode cX12_plans 39 = .ok (.istore 4, 2) := by decide +kernel
theorem dX12_plans_41 : decode cX12_plans 41 = .ok (.aload_n 0, 1) := by decide +kernel
theorem dX12_plans_42 : decode cX12_plans 42 = .ok (.aload_n 0, 1) := by decide +kernel
theorem dX12_plans_43 : decode cX12_plans 43 = .ok (.getfield 25, 3) := by decide +kernel
theorem dX12_plans_46 : decode cX12_plans 46 = .ok (.invokevirtual 172, 3) := by decide +kernel
theorem dX12_plans_49 : decode cX12_plans 49 = .ok (.invokestatic 155, 3) := by decide +kernel
theorem dX12_plans_52 : decode cX12_plans 52 = .ok (.istore 5, 2) := by decide +kernel
theorem dX12_plans_54 : decode cX12_plans 54 = .ok (.aload_n 0, 1) := by decide +kernel
theorem dX12_plans_55 : decode cX12_plans 55 = .ok (.getfield 25, 3) := by decide +kernel
theorem dX12_plans_58 : decode cX12_plans 58 = .ok (.iconst 2, 1) := by decide +kernel
theorem dX12_plans_59 : decode cX12_plans 59 = .ok (.iaload, 1) := by decide +kernel
theorem dX12_plans_60 : decode cX12_plans 60 = .ok (.aload_n 0, 1) := by decide +kernel
theorem dX12_plans_61 : decode cX12_plans 61 = .ok (.getfield 22, 3) := by decide +kernel
theorem dX12_plans_64 : decode cX12_plans 64 = .ok (.iconst 2, 1) := by decide +kernel
theorem dX12_plans_65 : decode cX12_plans 65 = .ok (.iaload, 1) := by decide +kernel
theorem dX12_plans_66 : decode cX12_plans 66 = .ok (.isub, 1) := by decide +kernel
theorem dX12_plans_67 : decode cX12_plans 67 = .ok (.istore 6, 2) := by decide +kernel
theorem dX12_plans_69 : decode cX12_plans 69 = .ok (.iload 4, 2) := by decide +kernel
theorem dX12_plans_71 : decode cX12_plans 71 = .ok (.aload_n 0, 1) := by decide +kernel
theorem dX12_plans_72 : decode cX12_plans 72 = .ok (.getfield 199, 3) := by decide +kernel
theorem dX12_plans_75 : decode cX12_plans 75 = .ok (.if_icmp .lt 39, 3) := by decide +kernel
theorem dX12_plans_78 : decode cX12_plans 78 = .ok (.iload 4, 2) := by decide +kernel
theorem dX12_plans_80 : decode cX12_plans 80 = .ok (.aload_n 0, 1) := by decide +kernel
theorem dX12_plans_81 : decode cX12_plans 81 = .ok (.getfield 199, 3) := by decide +kernel
theorem dX12_plans_84 : decode cX12_plans 84 = .ok (.if_icmp .ne 34, 3) := by decide +kernel
theorem dX12_plans_87 : decode cX12_plans 87 = .ok (.iload 5, 2) := by decide +kernel
theorem dX12_plans_89 : decode cX12_plans 89 = .ok (.aload_n 0, 1) := by decide +kernel
theorem dX12_plans_90 : decode cX12_plans 90 = .ok (.getfield 202, 3) := by decide +kernel
theorem dX12_plans_93 : decode cX12_plans 93 = .ok (.if_icmp .lt 21, 3) := by decide +kernel
theorem dX12_plans_96 : decode cX12_plans 96 = .ok (.iload 5, 2) := by decide +kernel
theorem dX12_plans_98 : decode cX12_plans 98 = .ok (.aload_n 0, 1) := by decide +kernel
theorem dX12_plans_99 : decode cX12_plans 99 = .ok (.getfield 202, 3) := by decide +kernel
theorem dX12_plans_102 : decode cX12_plans 102 = .ok (.if_icmp .ne 16, 3) := by decide +kernel
theorem dX12_plans_105 : decode cX12_plans 105 = .ok (.iload 6, 2) := by decide +kernel
theorem dX12_plans_107 : decode cX12_plans 107 = .ok (.aload_n 0, 1) := by decide +kernel
theorem dX12_plans_108 : decode cX12_plans 108 = .ok (.getfield 205, 3) := by decide +kernel
theorem dX12_plans_111 : decode cX12_plans 111 = .ok (.if_icmp .ge 7, 3) := by decide +kernel
theorem dX12_plans_114 : decode cX12_plans 114 = .ok (.iconst 1, 1) := by decide +kernel
theorem dX12_plans_115 : decode cX12_plans 115 = .ok (.goto 4, 3) := by decide +kernel
theorem dX12_plans_118 : decode cX12_plans 118 = .ok (.iconst 0, 1) := by decide +kernel
theorem dX12_plans_119 : decode cX12_plans 119 = .ok (.istore 7, 2) := by decide +kernel
theorem dX12_plans_121 : decode cX12_plans 121 = .ok (.iload_n 3, 1) := by decide +kernel
theorem dX12_plans_122 : decode cX12_plans 122 = .ok (.ifCond .eq 8, 3) := by decide +kernel
theorem dX12_plans_125 : decode cX12_plans 125 = .ok (.iload 7, 2) := by decide +kernel
theorem dX12_plans_127 : decode cX12_plans 127 = .ok (.ifCond .eq 50, 3) := by decide +kernel
theorem dX12_plans_130 : decode cX12_plans 130 = .ok (.aload_n 0, 1) := by decide +kernel
theorem dX12_plans_131 : decode cX12_plans 131 = .ok (.iload 4, 2) := by decide +kernel
theorem dX12_plans_133 : decode cX12_plans 133 = .ok (.putfield 199, 3) := by decide +kernel
theorem dX12_plans_136 : decode cX12_plans 136 = .ok (.aload_n 0, 1) := by decide +kernel
theorem dX12_plans_137 : decode cX12_plans 137 = .ok (.iload 5, 2) := by decide +kernel
theorem dX12_plans_139 : decode cX12_plans 139 = .ok (.putfield 202, 3) := by decide +kernel
theorem dX12_plans_142 : decode cX12_plans 142 = .ok (.aload_n 0, 1) := by decide +kernel
theorem dX12_plans_143 : decode cX12_plans 143 = .ok (.iload 6, 2) := by decide +kernel
theorem dX12_plans_145 : decode cX12_plans 145 = .ok (.putfield 205, 3) := by decide +kernel
theorem dX12_plans_148 : decode cX12_plans 148 = .ok (.iconst 0, 1) := by decide +kernel
theorem dX12_plans_149 : decode cX12_plans 149 = .ok (.istore 8, 2) := by decide +kernel
theorem dX12_plans_151 : decode cX12_plans 151 = .ok (.iload 8, 2) := by decide +kernel
theorem dX12_plans_153 : decode cX12_plans 153 = .ok (.iload_n 1, 1) := by decide +kernel
theorem dX12_plans_154 : decode cX12_plans 154 = .ok (.if_icmp .ge 23, 3) := by decide +kernel
theorem dX12_plans_157 : decode cX12_plans 157 = .ok (.aload_n 0, 1) := by decide +kernel
theorem dX12_plans_158 : decode cX12_plans 158 = .ok (.getfield 44, 3) := by decide +kernel
theorem dX12_plans_161 : decode cX12_plans 161 = .ok (.iload 8, 2) := by decide +kernel
theorem dX12_plans_163 : decode cX12_plans 163 = .ok (.aload_n 0, 1) := by decide +kernel
theorem dX12_plans_164 : decode cX12_plans 164 = .ok (.getfield 41, 3) := by decide +kernel
theorem dX12_plans_167 : decode cX12_plans 167 = .ok (.iload 8, 2) := by decide +kernel
theorem dX12_plans_169 : decode cX12_plans 169 = .ok (.iaload, 1) := by decide +kernel
theorem dX12_plans_170 : decode cX12_plans 170 = .ok (.iastore, 1) := by decide +kernel
theorem dX12_plans_171 : decode cX12_plans 171 = .ok (.iinc 8 1, 3) := by decide +kernel
theorem dX12_plans_174 : decode cX12_plans 174 = .ok (.goto (-23), 3) := by decide +kernel
theorem dX12_plans_177 : decode cX12_plans 177 = .ok (.iinc 3 1, 3) := by decide +kernel
theorem dX12_plans_180 : decode cX12_plans 180 = .ok (.goto (-165), 3) := by decide +kernel
theorem dX12_plans_183 : decode cX12_plans 183 = .ok (.return_, 1) := by decide +kernel
theorem dX12_plan_0 : decode cX12_plan 0 = .ok (.aload_n 0, 1) := by decide +kernel
theorem dX12_plan_1 : decode cX12_plan 1 = .ok (.iconst 0, 1) := by decide +kernel
theorem dX12_plan_2 : decode cX12_plan 2 = .ok (.putfield 61, 3) := by decide +kernel
theorem dX12_plan_5 : decode cX12_plan 5 = .ok (.iload_n 1, 1) := by decide +kernel
theorem dX12_plan_6 : decode cX12_plan 6 = .ok (.iconst 0, 1) := by decide +kernel
theorem dX12_plan_7 : decode cX12_plan 7 = .ok (.iconst 4, 1) := by decide +kernel
theorem dX12_plan_8 : decode cX12_plan 8 = .ok (.invokestatic 64, 3) := by decide +kernel
theorem dX12_plan_11 : decode cX12_plan 11 = .ok (.ifCond .eq 13, 3) := by decide +kernel
theorem dX12_plan_14 : decode cX12_plan 14 = .ok (.iload_n 2, 1) := by decide +kernel
theorem dX12_plan_15 : decode cX12_plan 15 = .ok (.iconst 0, 1) := by decide +kernel
theorem dX12_plan_16 : decode cX12_plan 16 = .ok (.bipush 6, 2) := by decide +kernel
theorem dX12_plan_18 : decode cX12_plan 18 = .ok (.invokestatic 64, 3) := by decide +kernel
theorem dX12_plan_21 : decode cX12_plan 21 = .ok (.ifCond .ne 5, 3) := by decide +kernel
theorem dX12_plan_24 : decode cX12_plan 24 = .ok (.iconst (-1), 1) := by decide +kernel
theorem dX12_plan_25 : decode cX12_plan 25 = .ok (.ireturn, 1) := by decide +kernel
theorem dX12_plan_26 : decode cX12_plan 26 = .ok (.aload_n 0, 1) := by decide +kernel
theorem dX12_plan_27 : decode cX12_plan 27 = .ok (.iload_n 1, 1) := by decide +kernel
theorem dX12_plan_28 : decode cX12_plan 28 = .ok (.invokevirtual 208, 3) := by decide +kernel
theorem dX12_plan_31 : decode cX12_plan 31 = .ok (.iload_n 2, 1) := by decide +kernel
theorem dX12_plan_32 : decode cX12_plan 32 = .ok (.iconst 4, 1) := by decide +kernel
theorem dX12_plan_33 : decode cX12_plan 33 = .ok (.if_icmp .ge 20, 3) := by decide +kernel
theorem dX12_plan_36 : decode cX12_plan 36 = .ok (.iload_n 2, 1) := by decide +kernel
theorem dX12_plan_37 : decode cX12_plan 37 = .ok (.iload_n 1, 1) := by decide +kernel
theorem dX12_plan_38 : decode cX12_plan 38 = .ok (.if_icmp .ge 12, 3) := by decide +kernel
theorem dX12_plan_41 : decode cX12_plan 41 = .ok (.aload_n 0, 1) := by decide +kernel
theorem dX12_plan_42 : decode cX12_plan 42 = .ok (.getfield 44, 3) := by decide +kernel
theorem dX12_plan_45 : decode cX12_plan 45 = .ok (.iload_n 2, 1) := by decide +kernel
theorem dX12_plan_46 : decode cX12_plan 46 = .ok (.iaload, 1) := by decide +kernel
theorem dX12_plan_47 : decode cX12_plan 47 = .ok (.goto 5, 3) := by decide +kernel
theorem dX12_plan_50 : decode cX12_plan 50 = .ok (.bipush (-5), 2) := by decide +kernel
theorem dX12_plan_52 : decode cX12_plan 52 = .ok (.ireturn, 1) := by decide +kernel
theorem dX12_plan_53 : decode cX12_plan 53 = .ok (.iload_n 2, 1) := by decide +kernel
theorem dX12_plan_54 : decode cX12_plan 54 = .ok (.iconst 4, 1) := by decide +kernel
theorem dX12_plan_55 : decode cX12_plan 55 = .ok (.if_icmp .ne 10, 3) := by decide +kernel
theorem dX12_plan_58 : decode cX12_plan 58 = .ok (.aload_n 0, 1) := by decide +kernel
theorem dX12_plan_59 : decode cX12_plan 59 = .ok (.getfield 199, 3) := by decide +kernel
theorem dX12_plan_62 : decode cX12_plan 62 = .ok (.goto 19, 3) := by decide +kernel
theorem dX12_plan_65 : decode cX12_plan 65 = .ok (.iload_n 2, 1) := by decide +kernel
theorem dX12_plan_66 : decode cX12_plan 66 = .ok (.iconst 5, 1) := by decide +kernel
theorem dX12_plan_67 : decode cX12_plan 67 = .ok (.if_icmp .ne 10, 3) := by decide +kernel
theorem dX12_plan_70 : decode cX12_plan 70 = .ok (.aload_n 0, 1) := by decide +kernel
theorem dX12_plan_71 : decode cX12_plan 71 = .ok (.getfield 202, 3) := by decide +kernel
theorem dX12_plan_74 : decode cX12_plan 74 = .ok (.goto 7, 3) := by decide +kernel
theorem dX12_plan_77 : decode cX12_plan 77 = .ok (.aload_n 0, 1) := by decide +kernel
theorem dX12_plan_78 : decode cX12_plan 78 = .ok (.getfield 205, 3) := by decide +kernel
theorem dX12_plan_81 : decode cX12_plan 81 = .ok (.ireturn, 1) := by decide +kernel
theorem dX12_fullBy_0 : decode cX12_fullBy 0 = .ok (.aload_n 0, 1) := by decide +kernel
theorem dX12_fullBy_1 : decode cX12_fullBy 1 = .ok (.iconst 0, 1) := by decide +kernel
theorem dX12_fullBy_2 : decode cX12_fullBy 2 = .ok (.putfield 61, 3) := by decide +kernel
theorem dX12_fullBy_5 : decode cX12_fullBy 5 = .ok (.aload_n 0, 1) := by decide +kernel
theorem dX12_fullBy_6 : decode cX12_fullBy 6 = .ok (.iload_n 1, 1) := by decide +kernel
theorem dX12_fullBy_7 : decode cX12_fullBy 7 = .ok (.invokevirtual 142, 3) := by decide +kernel
theorem dX12_fullBy_10 : decode cX12_fullBy 10 = .ok (.ifCond .eq 13, 3) := by decide +kernel
theorem dX12_fullBy_13 : decode cX12_fullBy 13 = .ok (.iload_n 2, 1) := by decide +kernel
theorem dX12_fullBy_14 : decode cX12_fullBy 14 = .ok (.iconst 0, 1) := by decide +kernel
theorem dX12_fullBy_15 : decode cX12_fullBy 15 = .ok (.bipush 100, 2) := by decide +kernel
theorem dX12_fullBy_17 : decode cX12_fullBy 17 = .ok (.invokestatic 64, 3) := by decide +kernel
theorem dX12_fullBy_20 : decode cX12_fullBy 20 = .ok (.ifCond .ne 5, 3) := by decide +kernel
theorem dX12_fullBy_23 : decode cX12_fullBy 23 = .ok (.iconst (-1), 1) := by decide +kernel
theorem dX12_fullBy_24 : decode cX12_fullBy 24 = .ok (.ireturn, 1) := by decide +kernel
theorem dX12_fullBy_25 : decode cX12_fullBy 25 = .ok (.aload_n 0, 1) := by decide +kernel
theorem dX12_fullBy_26 : decode cX12_fullBy 26 = .ok (.invokevirtual 189, 3) := by decide +kernel
theorem dX12_fullBy_29 : decode cX12_fullBy 29 = .ok (.aload_n 0, 1) := by decide +kernel
theorem dX12_fullBy_30 : decode cX12_fullBy 30 = .ok (.getfield 25, 3) := by decide +kernel
theorem dX12_fullBy_33 : decode cX12_fullBy 33 = .ok (.iconst 1, 1) := by decide +kernel
theorem dX12_fullBy_34 : decode cX12_fullBy 34 = .ok (.iconst 1, 1) := by decide +kernel
theorem dX12_fullBy_35 : decode cX12_fullBy 35 = .ok (.iload_n 1, 1) := by decide +kernel
theorem dX12_fullBy_36 : decode cX12_fullBy 36 = .ok (.ishl, 1) := by decide +kernel
theorem dX12_fullBy_37 : decode cX12_fullBy 37 = .ok (.iastore, 1) := by decide +kernel
theorem dX12_fullBy_38 : decode cX12_fullBy 38 = .ok (.iconst 0, 1) := by decide +kernel
theorem dX12_fullBy_39 : decode cX12_fullBy 39 = .ok (.istore_n 3, 1) := by decide +kernel
theorem dX12_fullBy_40 : decode cX12_fullBy 40 = .ok (.iload_n 3, 1) := by decide +kernel
theorem dX12_fullBy_41 : decode cX12_fullBy 41 = .ok (.bipush 61, 2) := by decide +kernel
theorem dX12_fullBy_43 : decode cX12_fullBy 43 = .ok (.if_icmp .ge 31, 3) := by decide +kernel
theorem dX12_fullBy_46 : decode cX12_fullBy 46 = .ok (.aload_n 0, 1) := by decide +kernel
theorem dX12_fullBy_47 : decode cX12_fullBy 47 = .ok (.getfield 25, 3) := by decide +kernel
theorem dX12_fullBy_50 : decode cX12_fullBy 50 = .ok (.iconst 4, 1) := by decide +kernel
theorem dX12_fullBy_51 : decode cX12_fullBy 51 = .ok (.iload_n 1, 1) := by decide +kernel
theorem dX12_fullBy_52 : decode cX12_fullBy 52 = .ok (.iadd, 1) := by decide +kernel
theorem dX12_fullBy_53 : decode cX12_fullBy 53 = .ok (.iaload, 1) := by decide +kernel
theorem dX12_fullBy_54 : decode cX12_fullBy 54 = .ok (.iload_n 2, 1) := by decide +kernel
theorem dX12_fullBy_55 : decode cX12_fullBy 55 = .ok (.if_icmp .lt 5, 3) := by decide +kernel
theorem dX12_fullBy_58 : decode cX12_fullBy 58 = .ok (.iload_n 3, 1) := by decide +kernel
theorem dX12_fullBy_59 : decode cX12_fullBy 59 = .ok (.ireturn, 1) := by decide +kernel
theorem dX12_fullBy_60 : decode cX12_fullBy 60 = .ok (.aload_n 0, 1) := by decide +kernel
theorem dX12_fullBy_61 : decode cX12_fullBy 61 = .ok (.aload_n 0, 1) := by decide +kernel
theorem dX12_fullBy_62 : decode cX12_fullBy 62 = .ok (.getfield 25, 3) := by decide +kernel
theorem dX12_fullBy_65 : decode cX12_fullBy 65 = .ok (.invokevirtual 168, 3) := by decide +kernel
theorem dX12_fullBy_68 : decode cX12_fullBy 68 = .ok (.iinc 3 1, 3) := by decide +kernel
theorem dX12_fullBy_71 : decode cX12_fullBy 71 = .ok (.goto (-31), 3) := by decide +kernel
theorem dX12_fullBy_74 : decode cX12_fullBy 74 = .ok (.bipush (-9), 2) := by decide +kernel
theorem dX12_fullBy_76 : decode cX12_fullBy 76 = .ok (.ireturn, 1) := by decide +kernel
theorem dX12_missedBy_0 : decode cX12_missedBy 0 = .ok (.iconst 0, 1) := by decide +kernel
theorem dX12_missedBy_1 : decode cX12_missedBy 1 = .ok (.istore_n 3, 1) := by decide +kernel
theorem dX12_missedBy_2 : decode cX12_missedBy 2 = .ok (.iconst 0, 1) := by decide +kernel
theorem dX12_missedBy_3 : decode cX12_missedBy 3 = .ok (.istore 4, 2) := by decide +kernel
theorem dX12_missedBy_5 : decode cX12_missedBy 5 = .ok (.iload 4, 2) := by decide +kernel
theorem dX12_missedBy_7 : decode cX12_missedBy 7 = .ok (.aload_n 0, 1) := by decide +kernel
theorem dX12_missedBy_8 : decode cX12_missedBy 8 = .ok (.getfield 130, 3) := by decide +kernel
theorem dX12_missedBy_11 : decode cX12_missedBy 11 = .ok (.if_icmp .ge 132, 3) := by decide +kernel
theorem dX12_missedBy_14 : decode cX12_missedBy 14 = .ok (.aload_n 0, 1) := by decide +kernel
theorem dX12_missedBy_15 : decode cX12_missedBy 15 = .ok (.getfield 16, 3) := by decide +kernel
theorem dX12_missedBy_18 : decode cX12_missedBy 18 = .ok (.iconst 3, 1) := by decide +kernel
theorem dX12_missedBy_19 : decode cX12_missedBy 19 = .ok (.iload 4, 2) := by decide +kernel
theorem dX12_missedBy_21 : decode cX12_missedBy 21 = .ok (.imul, 1) := by decide +kernel
theorem dX12_missedBy_22 : decode cX12_missedBy 22 = .ok (.iaload, 1) := by decide +kernel
theorem dX12_missedBy_23 : decode cX12_missedBy 23 = .ok (.iload_n 1, 1) := by decide +kernel
theorem dX12_missedBy_24 : decode cX12_missedBy 24 = .ok (.if_icmp .ne 22, 3) := by decide +kernel
theorem dX12_missedBy_27 : decode cX12_missedBy 27 = .ok (.aload_n 0, 1) := by decide +kernel
theorem dX12_missedBy_28 : decode cX12_missedBy 28 = .ok (.getfield 16, 3) := by decide +kernel
theorem dX12_missedBy_31 : decode cX12_missedBy 31 = .ok (.iconst 3, 1) := by decide +kernel
theorem dX12_missedBy_32 : decode cX12_missedBy 32 = .ok (.iload 4, 2) := by decide +kernel
theorem dX12_missedBy_34 : decode cX12_missedBy 34 = .ok (.imul, 1) := by decide +kernel
theorem dX12_missedBy_35 : decode cX12_missedBy 35 = .ok (.iconst 1, 1) := by decide +kernel
theorem dX12_missedBy_36 : decode cX12_missedBy 36 = .ok (.iadd, 1) := by decide +kernel
theorem dX12_missedBy_37 : decode cX12_missedBy 37 = .ok (.iaload, 1) := by decide +kernel
theorem dX12_missedBy_38 : decode cX12_missedBy 38 = .ok (.iload_n 2, 1) := by decide +kernel
theorem dX12_missedBy_39 : decode cX12_missedBy 39 = .ok (.if_icmp .ne 7, 3) := by decide +kernel
theorem dX12_missedBy_42 : decode cX12_missedBy 42 = .ok (.iconst 1, 1) := by decide +kernel
theorem dX12_missedBy_43 : decode cX12_missedBy 43 = .ok (.goto 4, 3) := by decide +kernel
theorem dX12_missedBy_46 : decode cX12_missedBy 46 = .ok (.iconst 0, 1) := by decide +kernel
theorem dX12_missedBy_47 : decode cX12_missedBy 47 = .ok (.istore 5, 2) := by decide +kernel
theorem dX12_missedBy_49 : decode cX12_missedBy 49 = .ok (.iload_n 3, 1) := by decide +kernel
theorem dX12_missedBy_50 : decode cX12_missedBy 50 = .ok (.iload 5, 2) := by decide +kernel
theorem dX12_missedBy_52 : decode cX12_missedBy 52 = .ok (.ifCond .eq 29, 3) := by decide +kernel
theorem dX12_missedBy_55 : decode cX12_missedBy 55 = .ok (.aload_n 0, 1) := by decide +kernel
theorem dX12_missedBy_56 : decode cX12_missedBy 56 = .ok (.getfield 25, 3) := by decide +kernel
theorem dX12_missedBy_59 : decode cX12_missedBy 59 = .ok (.iconst 4, 1) := by decide +kernel
theorem dX12_missedBy_60 : decode cX12_missedBy 60 = .ok (.iload_n 1, 1) := by decide +kernel
theorem dX12_missedBy_61 : decode cX12_missedBy 61 = .ok (.iadd, 1) := by decide +kernel
theorem dX12_missedBy_62 : decode cX12_missedBy 62 = .ok (.iaload, 1) := by decide +kernel
theorem dX12_missedBy_63 : decode cX12_missedBy 63 = .ok (.aload_n 0, 1) := by decide +kernel
theorem dX12_missedBy_64 : decode cX12_missedBy 64 = .ok (.getfield 16, 3) := by decide +kernel
theorem dX12_missedBy_67 : decode cX12_missedBy 67 = .ok (.iconst 3, 1) := by decide +kernel
theorem dX12_missedBy_68 : decode cX12_missedBy 68 = .ok (.iload 4, 2) := by decide +kernel
theorem dX12_missedBy_70 : decode cX12_missedBy 70 = .ok (.imul, 1) := by decide +kernel
theorem dX12_missedBy_71 : decode cX12_missedBy 71 = .ok (.iconst 2, 1) := by decide +kernel
theorem dX12_missedBy_72 : decode cX12_missedBy 72 = .ok (.iadd, 1) := by decide +kernel
theorem dX12_missedBy_73 : decode cX12_missedBy 73 = .ok (.iaload, 1) := by decide +kernel
theorem dX12_missedBy_74 : decode cX12_missedBy 74 = .ok (.if_icmp .ge 7, 3) := by decide +kernel
theorem dX12_missedBy_77 : decode cX12_missedBy 77 = .ok (.iconst 1, 1) := by decide +kernel
theorem dX12_missedBy_78 : decode cX12_missedBy 78 = .ok (.goto 4, 3) := by decide +kernel
theorem dX12_missedBy_81 : decode cX12_missedBy 81 = .ok (.iconst 0, 1) := by decide +kernel
theorem dX12_missedBy_82 : decode cX12_missedBy 82 = .ok (.iadd, 1) := by decide +kernel
theorem dX12_missedBy_83 : decode cX12_missedBy 83 = .ok (.istore_n 3, 1) := by decide +kernel
theorem dX12_missedBy_84 : decode cX12_missedBy 84 = .ok (.aload_n 0, 1) := by decide +kernel
theorem dX12_missedBy_85 : decode cX12_missedBy 85 = .ok (.getfield 25, 3) := by decide +kernel
theorem dX12_missedBy_88 : decode cX12_missedBy 88 = .ok (.iconst 4, 1) := by decide +kernel
theorem dX12_missedBy_89 : decode cX12_missedBy 89 = .ok (.iload_n 1, 1) := by decide +kernel
theorem dX12_missedBy_90 : decode cX12_missedBy 90 = .ok (.iadd, 1) := by decide +kernel
theorem dX12_missedBy_91 : decode cX12_missedBy 91 = .ok (.dup2, 1) := by decide +kernel
theorem dX12_missedBy_92 : decode cX12_missedBy 92 = .ok (.iaload, 1) := by decide +kernel
theorem dX12_missedBy_93 : decode cX12_missedBy 93 = .ok (.iload 5, 2) := by decide +kernel
theorem dX12_missedBy_95 : decode cX12_missedBy 95 = .ok (.ifCond .eq 39, 3) := by decide +kernel
theorem dX12_missedBy_98 : decode cX12_missedBy 98 = .ok (.aload_n 0, 1) := by decide +kernel
theorem dX12_missedBy_99 : decode cX12_missedBy 99 = .ok (.getfield 25, 3) := by decide +kernel
theorem dX12_missedBy_102 : decode cX12_missedBy 102 = .ok (.iconst 4, 1) := by decide +kernel
theorem dX12_missedBy_103 : decode cX12_missedBy 103 = .ok (.iload_n 1, 1) := by decide +kernel
theorem dX12_missedBy_104 : decode cX12_missedBy 104 = .ok (.iadd, 1) := by decide +kernel
theorem dX12_missedBy_105 : decode cX12_missedBy 105 = .ok (.iaload, 1) := by decide +kernel
theorem dX12_missedBy_106 : decode cX12_missedBy 106 = .ok (.aload_n 0, 1) := by decide +kernel
theorem dX12_missedBy_107 : decode cX12_missedBy 107 = .ok (.getfield 16, 3) := by decide +kernel
theorem dX12_missedBy_110 : decode cX12_missedBy 110 = .ok (.iconst 3, 1) := by decide +kernel
theorem dX12_missedBy_111 : decode cX12_missedBy 111 = .ok (.iload 4, 2) := by decide +kernel
theorem dX12_missedBy_113 : decode cX12_missedBy 113 = .ok (.imul, 1) := by decide +kernel
theorem dX12_missedBy_114 : decode cX12_missedBy 114 = .ok (.iconst 2, 1) := by decide +kernel
theorem dX12_missedBy_115 : decode cX12_missedBy 115 = .ok (.iadd, 1) := by decide +kernel
theorem dX12_missedBy_116 : decode cX12_missedBy 116 = .ok (.iaload, 1) := by decide +kernel
theorem dX12_missedBy_117 : decode cX12_missedBy 117 = .ok (.if_icmp .lt 17, 3) := by decide +kernel
theorem dX12_missedBy_120 : decode cX12_missedBy 120 = .ok (.aload_n 0, 1) := by decide +kernel
theorem dX12_missedBy_121 : decode cX12_missedBy 121 = .ok (.getfield 16, 3) := by decide +kernel
theorem dX12_missedBy_124 : decode cX12_missedBy 124 = .ok (.iconst 3, 1) := by decide +kernel
theorem dX12_missedBy_125 : decode cX12_missedBy 125 = .ok (.iload 4, 2) := by decide +kernel
theorem dX12_missedBy_127 : decode cX12_missedBy 127 = .ok (.imul, 1) := by decide +kernel
theorem dX12_missedBy_128 : decode cX12_missedBy 128 = .ok (.iconst 2, 1) := by decide +kernel
theorem dX12_missedBy_129 : decode cX12_missedBy 129 = .ok (.iadd, 1) := by decide +kernel
theorem dX12_missedBy_130 : decode cX12_missedBy 130 = .ok (.iaload, 1) := by decide +kernel
theorem dX12_missedBy_131 : decode cX12_missedBy 131 = .ok (.goto 4, 3) := by decide +kernel
theorem dX12_missedBy_134 : decode cX12_missedBy 134 = .ok (.iconst 0, 1) := by decide +kernel
theorem dX12_missedBy_135 : decode cX12_missedBy 135 = .ok (.isub, 1) := by decide +kernel
theorem dX12_missedBy_136 : decode cX12_missedBy 136 = .ok (.iastore, 1) := by decide +kernel
theorem dX12_missedBy_137 : decode cX12_missedBy 137 = .ok (.iinc 4 1, 3) := by decide +kernel
theorem dX12_missedBy_140 : decode cX12_missedBy 140 = .ok (.goto (-135), 3) := by decide +kernel
theorem dX12_missedBy_143 : decode cX12_missedBy 143 = .ok (.iload_n 3, 1) := by decide +kernel
theorem dX12_missedBy_144 : decode cX12_missedBy 144 = .ok (.ireturn, 1) := by decide +kernel
theorem dX12_isHeard_0 : decode cX12_isHeard 0 = .ok (.aload_n 0, 1) := by decide +kernel
theorem dX12_isHeard_1 : decode cX12_isHeard 1 = .ok (.invokevirtual 189, 3) := by decide +kernel
theorem dX12_isHeard_4 : decode cX12_isHeard 4 = .ok (.iconst 0, 1) := by decide +kernel
theorem dX12_isHeard_5 : decode cX12_isHeard 5 = .ok (.istore 4, 2) := by decide +kernel
theorem dX12_isHeard_7 : decode cX12_isHeard 7 = .ok (.aload_n 0, 1) := by decide +kernel
theorem dX12_isHeard_8 : decode cX12_isHeard 8 = .ok (.getfield 22, 3) := by decide +kernel
theorem dX12_isHeard_11 : decode cX12_isHeard 11 = .ok (.iconst 0, 1) := by decide +kernel
theorem dX12_isHeard_12 : decode cX12_isHeard 12 = .ok (.iaload, 1) := by decide +kernel
theorem dX12_isHeard_13 : decode cX12_isHeard 13 = .ok (.istore 5, 2) := by decide +kernel
theorem dX12_isHeard_15 : decode cX12_isHeard 15 = .ok (.iload 5, 2) := by decide +kernel
theorem dX12_isHeard_17 : decode cX12_isHeard 17 = .ok (.iload_n 3, 1) := by decide +kernel
theorem dX12_isHeard_18 : decode cX12_isHeard 18 = .ok (.if_icmp .gt 101, 3) := by decide +kernel
theorem dX12_isHeard_21 : decode cX12_isHeard 21 = .ok (.iload 4, 2) := by decide +kernel
theorem dX12_isHeard_23 : decode cX12_isHeard 23 = .ok (.aload_n 0, 1) := by decide +kernel
theorem dX12_isHeard_24 : decode cX12_isHeard 24 = .ok (.iload_n 1, 1) := by decide +kernel
theorem dX12_isHeard_25 : decode cX12_isHeard 25 = .ok (.iload 5, 2) := by decide +kernel
theorem dX12_isHeard_27 : decode cX12_isHeard 27 = .ok (.invokevirtual 211, 3) := by decide +kernel
theorem dX12_isHeard_30 : decode cX12_isHeard 30 = .ok (.iadd, 1) := by decide +kernel
theorem dX12_isHeard_31 : decode cX12_isHeard 31 = .ok (.istore 4, 2) := by decide +kernel
theorem dX12_isHeard_33 : decode cX12_isHeard 33 = .ok (.iload 5, 2) := by decide +kernel
theorem dX12_isHeard_35 : decode cX12_isHeard 35 = .ok (.iload_n 2, 1) := by decide +kernel
theorem dX12_isHeard_36 : decode cX12_isHeard 36 = .ok (.if_icmp .lt 16, 3) := by decide +kernel
theorem dX12_isHeard_39 : decode cX12_isHeard 39 = .ok (.aload_n 0, 1) := by decide +kernel
theorem dX12_isHeard_40 : decode cX12_isHeard 40 = .ok (.iload 5, 2) := by decide +kernel
theorem dX12_isHeard_42 : decode cX12_isHeard 42 = .ok (.invokevirtual 146, 3) := by decide +kernel
theorem dX12_isHeard_45 : decode cX12_isHeard 45 = .ok (.ifCond .ne 7, 3) := by decide +kernel
theorem dX12_isHeard_48 : decode cX12_isHeard 48 = .ok (.iconst 1, 1) := by decide +kernel
theorem dX12_isHeard_49 : decode cX12_isHeard 49 = .ok (.goto 4, 3) := by decide +kernel
theorem dX12_isHeard_52 : decode cX12_isHeard 52 = .ok (.iconst 0, 1) := by decide +kernel
theorem dX12_isHeard_53 : decode cX12_isHeard 53 = .ok (.istore 6, 2) := by decide +kernel
theorem dX12_isHeard_55 : decode cX12_isHeard 55 = .ok (.aload_n 0, 1) := by decide +kernel
theorem dX12_isHeard_56 : decode cX12_isHeard 56 = .ok (.getfield 25, 3) := by decide +kernel
theorem dX12_isHeard_59 : decode cX12_isHeard 59 = .ok (.iconst 4, 1) := by decide +kernel
theorem dX12_isHeard_60 : decode cX12_isHeard 60 = .ok (.iload_n 1, 1) := by decide +kernel
theorem dX12_isHeard_61 : decode cX12_isHeard 61 = .ok (.iadd, 1) := by decide +kernel
theorem dX12_isHeard_62 : decode cX12_isHeard 62 = .ok (.iload 6, 2) := by decide +kernel
theorem dX12_isHeard_64 : decode cX12_isHeard 64 = .ok (.ifCond .eq 27, 3) := by decide +kernel
theorem dX12_isHeard_67 : decode cX12_isHeard 67 = .ok (.aload_n 0, 1) := by decide +kernel
theorem dX12_isHeard_68 : decode cX12_isHeard 68 = .ok (.getfield 25, 3) := by decide +kernel
theorem dX12_isHeard_71 : decode cX12_isHeard 71 = .ok (.iconst 4, 1) := by decide +kernel
theorem dX12_isHeard_72 : decode cX12_isHeard 72 = .ok (.iload_n 1, 1) := by decide +kernel
theorem dX12_isHeard_73 : decode cX12_isHeard 73 = .ok (.iadd, 1) := by decide +kernel
theorem dX12_isHeard_74 : decode cX12_isHeard 74 = .ok (.iaload, 1) := by decide +kernel
theorem dX12_isHeard_75 : decode cX12_isHeard 75 = .ok (.aload_n 0, 1) := by decide +kernel
theorem dX12_isHeard_76 : decode cX12_isHeard 76 = .ok (.getfield 13, 3) := by decide +kernel
theorem dX12_isHeard_79 : decode cX12_isHeard 79 = .ok (.iconst 3, 1) := by decide +kernel
theorem dX12_isHeard_80 : decode cX12_isHeard 80 = .ok (.iload_n 1, 1) := by decide +kernel
theorem dX12_isHeard_81 : decode cX12_isHeard 81 = .ok (.imul, 1) := by decide +kernel
theorem dX12_isHeard_82 : decode cX12_isHeard 82 = .ok (.iconst 1, 1) := by decide +kernel
theorem dX12_isHeard_83 : decode cX12_isHeard 83 = .ok (.iadd, 1) := by decide +kernel
theorem dX12_isHeard_84 : decode cX12_isHeard 84 = .ok (.iaload, 1) := by decide +kernel
theorem dX12_isHeard_85 : decode cX12_isHeard 85 = .ok (.invokestatic 149, 3) := by decide +kernel
theorem dX12_isHeard_88 : decode cX12_isHeard 88 = .ok (.goto 24, 3) := by decide +kernel
theorem dX12_isHeard_91 : decode cX12_isHeard 91 = .ok (.aload_n 0, 1) := by decide +kernel
theorem dX12_isHeard_92 : decode cX12_isHeard 92 = .ok (.getfield 25, 3) := by decide +kernel
theorem dX12_isHeard_95 : decode cX12_isHeard 95 = .ok (.iconst 4, 1) := by decide +kernel
theorem dX12_isHeard_96 : decode cX12_isHeard 96 = .ok (.iload_n 1, 1) := by decide +kernel
theorem dX12_isHeard_97 : decode cX12_isHeard 97 = .ok (.iadd, 1) := by decide +kernel
theorem dX12_isHeard_98 : decode cX12_isHeard 98 = .ok (.iaload, 1) := by decide +kernel
theorem dX12_isHeard_99 : decode cX12_isHeard 99 = .ok (.aload_n 0, 1) := by decide +kernel
theorem dX12_isHeard_100 : decode cX12_isHeard 100 = .ok (.getfield 13, 3) := by decide +kernel
theorem dX12_isHeard_103 : decode cX12_isHeard 103 = .ok (.iconst 3, 1) := by decide +kernel
theorem dX12_isHeard_104 : decode cX12_isHeard 104 = .ok (.iload_n 1, 1) := by decide +kernel
theorem dX12_isHeard_105 : decode cX12_isHeard 105 = .ok (.imul, 1) := by decide +kernel
theorem dX12_isHeard_106 : decode cX12_isHeard 106 = .ok (.iconst 2, 1) := by decide +kernel
theorem dX12_isHeard_107 : decode cX12_isHeard 107 = .ok (.iadd, 1) := by decide +kernel
theorem dX12_isHeard_108 : decode cX12_isHeard 108 = .ok (.iaload, 1) := by decide +kernel
theorem dX12_isHeard_109 : decode cX12_isHeard 109 = .ok (.invokestatic 152, 3) := by decide +kernel
theorem dX12_isHeard_112 : decode cX12_isHeard 112 = .ok (.iastore, 1) := by decide +kernel
theorem dX12_isHeard_113 : decode cX12_isHeard 113 = .ok (.iinc 5 1, 3) := by decide +kernel
theorem dX12_isHeard_116 : decode cX12_isHeard 116 = .ok (.goto (-101), 3) := by decide +kernel
theorem dX12_isHeard_119 : decode cX12_isHeard 119 = .ok (.iload 4, 2) := by decide +kernel
theorem dX12_isHeard_121 : decode cX12_isHeard 121 = .ok (.ifCond .ne 7, 3) := by decide +kernel
theorem dX12_isHeard_124 : decode cX12_isHeard 124 = .ok (.iconst 1, 1) := by decide +kernel
theorem dX12_isHeard_125 : decode cX12_isHeard 125 = .ok (.goto 4, 3) := by decide +kernel
theorem dX12_isHeard_128 : decode cX12_isHeard 128 = .ok (.iconst 0, 1) := by decide +kernel
theorem dX12_isHeard_129 : decode cX12_isHeard 129 = .ok (.ireturn, 1) := by decide +kernel
theorem dX12_latest_0 : decode cX12_latest 0 = .ok (.aload_n 0, 1) := by decide +kernel
theorem dX12_latest_1 : decode cX12_latest 1 = .ok (.iconst 0, 1) := by decide +kernel
theorem dX12_latest_2 : decode cX12_latest 2 = .ok (.putfield 61, 3) := by decide +kernel
theorem dX12_latest_5 : decode cX12_latest 5 = .ok (.aload_n 0, 1) := by decide +kernel
theorem dX12_latest_6 : decode cX12_latest 6 = .ok (.iload_n 1, 1) := by decide +kernel
theorem dX12_latest_7 : decode cX12_latest 7 = .ok (.invokevirtual 142, 3) := by decide +kernel
theorem dX12_latest_10 : decode cX12_latest 10 = .ok (.ifCond .eq 18, 3) := by decide +kernel
theorem dX12_latest_13 : decode cX12_latest 13 = .ok (.iload_n 2, 1) := by decide +kernel
theorem dX12_latest_14 : decode cX12_latest 14 = .ok (.aload_n 0, 1) := by decide +kernel
theorem dX12_latest_15 : decode cX12_latest 15 = .ok (.getfield 22, 3) := by decide +kernel
theorem dX12_latest_18 : decode cX12_latest 18 = .ok (.iconst 0, 1) := by decide +kernel
theorem dX12_latest_19 : decode cX12_latest 19 = .ok (.iaload, 1) := by decide +kernel
theorem dX12_latest_20 : decode cX12_latest 20 = .ok (.bipush 60, 2) := by decide +kernel
theorem dX12_latest_22 : decode cX12_latest 22 = .ok (.invokestatic 64, 3) := by decide +kernel
theorem dX12_latest_25 : decode cX12_latest 25 = .ok (.ifCond .ne 5, 3) := by decide +kernel
theorem dX12_latest_28 : decode cX12_latest 28 = .ok (.iconst (-1), 1) := by decide +kernel
theorem dX12_latest_29 : decode cX12_latest 29 = .ok (.ireturn, 1) := by decide +kernel
theorem dX12_latest_30 : decode cX12_latest 30 = .ok (.iload_n 2, 1) := by decide +kernel
theorem dX12_latest_31 : decode cX12_latest 31 = .ok (.iconst 1, 1) := by decide +kernel
theorem dX12_latest_32 : decode cX12_latest 32 = .ok (.iadd, 1) := by decide +kernel
theorem dX12_latest_33 : decode cX12_latest 33 = .ok (.istore_n 3, 1) := by decide +kernel
theorem dX12_latest_34 : decode cX12_latest 34 = .ok (.iload_n 3, 1) := by decide +kernel
theorem dX12_latest_35 : decode cX12_latest 35 = .ok (.aload_n 0, 1) := by decide +kernel
theorem dX12_latest_36 : decode cX12_latest 36 = .ok (.getfield 22, 3) := by decide +kernel
theorem dX12_latest_39 : decode cX12_latest 39 = .ok (.iconst 0, 1) := by decide +kernel
theorem dX12_latest_40 : decode cX12_latest 40 = .ok (.iaload, 1) := by decide +kernel
theorem dX12_latest_41 : decode cX12_latest 41 = .ok (.if_icmp .lt 21, 3) := by decide +kernel
theorem dX12_latest_44 : decode cX12_latest 44 = .ok (.aload_n 0, 1) := by decide +kernel
theorem dX12_latest_45 : decode cX12_latest 45 = .ok (.iload_n 1, 1) := by decide +kernel
theorem dX12_latest_46 : decode cX12_latest 46 = .ok (.iload_n 3, 1) := by decide +kernel
theorem dX12_latest_47 : decode cX12_latest 47 = .ok (.iload_n 2, 1) := by decide +kernel
theorem dX12_latest_48 : decode cX12_latest 48 = .ok (.invokevirtual 214, 3) := by decide +kernel
theorem dX12_latest_51 : decode cX12_latest 51 = .ok (.ifCond .eq 5, 3) := by decide +kernel
theorem dX12_latest_54 : decode cX12_latest 54 = .ok (.iload_n 3, 1) := by decide +kernel
theorem dX12_latest_55 : decode cX12_latest 55 = .ok (.ireturn, 1) := by decide +kernel
theorem dX12_latest_56 : decode cX12_latest 56 = .ok (.iinc 3 (-1), 3) := by decide +kernel
theorem dX12_latest_59 : decode cX12_latest 59 = .ok (.goto (-25), 3) := by decide +kernel
theorem dX12_latest_62 : decode cX12_latest 62 = .ok (.bipush (-9), 2) := by decide +kernel
theorem dX12_latest_64 : decode cX12_latest 64 = .ok (.ireturn, 1) := by decide +kernel
theorem dX12_says_0 : decode cX12_says 0 = .ok (.aload_n 0, 1) := by decide +kernel
theorem dX12_says_1 : decode cX12_says 1 = .ok (.iconst 0, 1) := by decide +kernel
theorem dX12_says_2 : decode cX12_says 2 = .ok (.putfield 61, 3) := by decide +kernel
theorem dX12_says_5 : decode cX12_says 5 = .ok (.aload_n 0, 1) := by decide +kernel
theorem dX12_says_6 : decode cX12_says 6 = .ok (.iload_n 1, 1) := by decide +kernel
theorem dX12_says_7 : decode cX12_says 7 = .ok (.invokevirtual 142, 3) := by decide +kernel
theorem dX12_says_10 : decode cX12_says 10 = .ok (.ifCond .eq 34, 3) := by decide +kernel
theorem dX12_says_13 : decode cX12_says 13 = .ok (.iload_n 2, 1) := by decide +kernel
theorem dX12_says_14 : decode cX12_says 14 = .ok (.iconst 0, 1) := by decide +kernel
theorem dX12_says_15 : decode cX12_says 15 = .ok (.bipush 100, 2) := by decide +kernel
theorem dX12_says_17 : decode cX12_says 17 = .ok (.invokestatic 64, 3) := by decide +kernel
theorem dX12_says_20 : decode cX12_says 20 = .ok (.ifCond .eq 24, 3) := by decide +kernel
theorem dX12_says_23 : decode cX12_says 23 = .ok (.iload_n 3, 1) := by decide +kernel
theorem dX12_says_24 : decode cX12_says 24 = .ok (.iconst 1, 1) := by decide +kernel
theorem dX12_says_25 : decode cX12_says 25 = .ok (.bipush 20, 2) := by decide +kernel
theorem dX12_says_27 : decode cX12_says 27 = .ok (.invokestatic 64, 3) := by decide +kernel
theorem dX12_says_30 : decode cX12_says 30 = .ok (.ifCond .eq 14, 3) := by decide +kernel
theorem dX12_says_33 : decode cX12_says 33 = .ok (.iload 4, 2) := by decide +kernel
theorem dX12_says_35 : decode cX12_says 35 = .ok (.iconst 0, 1) := by decide +kernel
theorem dX12_says_36 : decode cX12_says 36 = .ok (.bipush 100, 2) := by decide +kernel
theorem dX12_says_38 : decode cX12_says 38 = .ok (.invokestatic 64, 3) := by decide +kernel
theorem dX12_says_41 : decode cX12_says 41 = .ok (.ifCond .ne 5, 3) := by decide +kernel
theorem dX12_says_44 : decode cX12_says 44 = .ok (.iconst (-1), 1) := by decide +kernel
theorem dX12_says_45 : decode cX12_says 45 = .ok (.ireturn, 1) := by decide +kernel
theorem dX12_says_46 : decode cX12_says 46 = .ok (.aload_n 0, 1) := by decide +kernel
theorem dX12_says_47 : decode cX12_says 47 = .ok (.getfield 139, 3) := by decide +kernel
theorem dX12_says_50 : decode cX12_says 50 = .ok (.bipush 6, 2) := by decide +kernel
theorem dX12_says_52 : decode cX12_says 52 = .ok (.if_icmp .ne 6, 3) := by decide +kernel
theorem dX12_says_55 : decode cX12_says 55 = .ok (.bipush (-3), 2) := by decide +kernel
theorem dX12_says_57 : decode cX12_says 57 = .ok (.ireturn, 1) := by decide +kernel
theorem dX12_says_58 : decode cX12_says 58 = .ok (.iconst 4, 1) := by decide +kernel
theorem dX12_says_59 : decode cX12_says 59 = .ok (.aload_n 0, 1) := by decide +kernel
theorem dX12_says_60 : decode cX12_says 60 = .ok (.getfield 139, 3) := by decide +kernel
theorem dX12_says_63 : decode cX12_says 63 = .ok (.imul, 1) := by decide +kernel
theorem dX12_says_64 : decode cX12_says 64 = .ok (.istore 5, 2) := by decide +kernel
theorem dX12_says_66 : decode cX12_says 66 = .ok (.aload_n 0, 1) := by decide +kernel
theorem dX12_says_67 : decode cX12_says 67 = .ok (.getfield 38, 3) := by decide +kernel
theorem dX12_says_70 : decode cX12_says 70 = .ok (.iload 5, 2) := by decide +kernel
theorem dX12_says_72 : decode cX12_says 72 = .ok (.iload_n 1, 1) := by decide +kernel
theorem dX12_says_73 : decode cX12_says 73 = .ok (.iastore, 1) := by decide +kernel
theorem dX12_says_74 : decode cX12_says 74 = .ok (.aload_n 0, 1) := by decide +kernel
theorem dX12_says_75 : decode cX12_says 75 = .ok (.getfield 38, 3) := by decide +kernel
theorem dX12_says_78 : decode cX12_says 78 = .ok (.iload 5, 2) := by decide +kernel
theorem dX12_says_80 : decode cX12_says 80 = .ok (.iconst 1, 1) := by decide +kernel
theorem dX12_says_81 : decode cX12_says 81 = .ok (.iadd, 1) := by decide +kernel
theorem dX12_says_82 : decode cX12_says 82 = .ok (.iload_n 2, 1) := by decide +kernel
theorem dX12_says_83 : decode cX12_says 83 = .ok (.iastore, 1) := by decide +kernel
theorem dX12_says_84 : decode cX12_says 84 = .ok (.aload_n 0, 1) := by decide +kernel
theorem dX12_says_85 : decode cX12_says 85 = .ok (.getfield 38, 3) := by decide +kernel
theorem dX12_says_88 : decode cX12_says 88 = .ok (.iload 5, 2) := by decide +kernel
theorem dX12_says_90 : decode cX12_says 90 = .ok (.iconst 2, 1) := by decide +kernel
theorem dX12_says_91 : decode cX12_says 91 = .ok (.iadd, 1) := by decide +kernel
theorem dX12_says_92 : decode cX12_says 92 = .ok (.iload_n 3, 1) := by decide +kernel
theorem dX12_says_93 : decode cX12_says 93 = .ok (.iastore, 1) := by decide +kernel
theorem dX12_says_94 : decode cX12_says 94 = .ok (.aload_n 0, 1) := by decide +kernel
theorem dX12_says_95 : decode cX12_says 95 = .ok (.getfield 38, 3) := by decide +kernel
theorem dX12_says_98 : decode cX12_says 98 = .ok (.iload 5, 2) := by decide +kernel
theorem dX12_says_100 : decode cX12_says 100 = .ok (.iconst 3, 1) := by decide +kernel
theorem dX12_says_101 : decode cX12_says 101 = .ok (.iadd, 1) := by decide +kernel
theorem dX12_says_102 : decode cX12_says 102 = .ok (.iload 4, 2) := by decide +kernel
theorem dX12_says_104 : decode cX12_says 104 = .ok (.iastore, 1) := by decide +kernel
theorem dX12_says_105 : decode cX12_says 105 = .ok (.aload_n 0, 1) := by decide +kernel
theorem dX12_says_106 : decode cX12_says 106 = .ok (.dup, 1) := by decide +kernel
theorem dX12_says_107 : decode cX12_says 107 = .ok (.getfield 139, 3) := by decide +kernel
theorem dX12_says_110 : decode cX12_says 110 = .ok (.iconst 1, 1) := by decide +kernel
theorem dX12_says_111 : decode cX12_says 111 = .ok (.iadd, 1) := by decide +kernel
theorem dX12_says_112 : decode cX12_says 112 = .ok (.putfield 139, 3) := by decide +kernel
theorem dX12_says_115 : decode cX12_says 115 = .ok (.aload_n 0, 1) := by decide +kernel
theorem dX12_says_116 : decode cX12_says 116 = .ok (.getfield 139, 3) := by decide +kernel
theorem dX12_says_119 : decode cX12_says 119 = .ok (.ireturn, 1) := by decide +kernel
theorem dX12_forget_0 : decode cX12_forget 0 = .ok (.aload_n 0, 1) := by decide +kernel
theorem dX12_forget_1 : decode cX12_forget 1 = .ok (.iconst 0, 1) := by decide +kernel
theorem dX12_forget_2 : decode cX12_forget 2 = .ok (.putfield 61, 3) := by decide +kernel
theorem dX12_forget_5 : decode cX12_forget 5 = .ok (.aload_n 0, 1) := by decide +kernel
theorem dX12_forget_6 : decode cX12_forget 6 = .ok (.getfield 139, 3) := by decide +kernel
theorem dX12_forget_9 : decode cX12_forget 9 = .ok (.istore_n 1, 1) := by decide +kernel
theorem dX12_forget_10 : decode cX12_forget 10 = .ok (.aload_n 0, 1) := by decide +kernel
theorem dX12_forget_11 : decode cX12_forget 11 = .ok (.iconst 0, 1) := by decide +kernel
theorem dX12_forget_12 : decode cX12_forget 12 = .ok (.putfield 139, 3) := by decide +kernel
theorem dX12_forget_15 : decode cX12_forget 15 = .ok (.iload_n 1, 1) := by decide +kernel
theorem dX12_forget_16 : decode cX12_forget 16 = .ok (.ireturn, 1) := by decide +kernel
theorem dX12_risen_0 : decode cX12_risen 0 = .ok (.iload_n 2, 1) := by decide +kernel
theorem dX12_risen_1 : decode cX12_risen 1 = .ok (.istore 4, 2) := by decide +kernel
theorem dX12_risen_3 : decode cX12_risen 3 = .ok (.iconst 0, 1) := by decide +kernel
theorem dX12_risen_4 : decode cX12_risen 4 = .ok (.istore 5, 2) := by decide +kernel
theorem dX12_risen_6 : decode cX12_risen 6 = .ok (.iload 5, 2) := by decide +kernel
theorem dX12_risen_8 : decode cX12_risen 8 = .ok (.iload_n 3, 1) := by decide +kernel
theorem dX12_risen_9 : decode cX12_risen 9 = .ok (.if_icmp .ge 26, 3) := by decide +kernel
theorem dX12_risen_12 : decode cX12_risen 12 = .ok (.iload 4, 2) := by decide +kernel
theorem dX12_risen_14 : decode cX12_risen 14 = .ok (.aload_n 0, 1) := by decide +kernel
theorem dX12_risen_15 : decode cX12_risen 15 = .ok (.getfield 13, 3) := by decide +kernel
theorem dX12_risen_18 : decode cX12_risen 18 = .ok (.iconst 3, 1) := by decide +kernel
theorem dX12_risen_19 : decode cX12_risen 19 = .ok (.iload_n 1, 1) := by decide +kernel
theorem dX12_risen_20 : decode cX12_risen 20 = .ok (.imul, 1) := by decide +kernel
theorem dX12_risen_21 : decode cX12_risen 21 = .ok (.iconst 1, 1) := by decide +kernel
theorem dX12_risen_22 : decode cX12_risen 22 = .ok (.iadd, 1) := by decide +kernel
theorem dX12_risen_23 : decode cX12_risen 23 = .ok (.iaload, 1) := by decide +kernel
theorem dX12_risen_24 : decode cX12_risen 24 = .ok (.invokestatic 149, 3) := by decide +kernel
theorem dX12_risen_27 : decode cX12_risen 27 = .ok (.istore 4, 2) := by decide +kernel
theorem dX12_risen_29 : decode cX12_risen 29 = .ok (.iinc 5 1, 3) := by decide +kernel
theorem dX12_risen_32 : decode cX12_risen 32 = .ok (.goto (-26), 3) := by decide +kernel
theorem dX12_risen_35 : decode cX12_risen 35 = .ok (.iload 4, 2) := by decide +kernel
theorem dX12_risen_37 : decode cX12_risen 37 = .ok (.ireturn, 1) := by decide +kernel
theorem dX12_could_0 : decode cX12_could 0 = .ok (.aload_n 0, 1) := by decide +kernel
theorem dX12_could_1 : decode cX12_could 1 = .ok (.iconst 0, 1) := by decide +kernel
theorem dX12_could_2 : decode cX12_could 2 = .ok (.putfield 61, 3) := by decide +kernel
theorem dX12_could_5 : decode cX12_could 5 = .ok (.iload_n 1, 1) := by decide +kernel
theorem dX12_could_6 : decode cX12_could 6 = .ok (.iconst 0, 1) := by decide +kernel
theorem dX12_could_7 : decode cX12_could 7 = .ok (.aload_n 0, 1) := by decide +kernel
theorem dX12_could_8 : decode cX12_could 8 = .ok (.getfield 139, 3) := by decide +kernel
theorem dX12_could_11 : decode cX12_could 11 = .ok (.iconst 1, 1) := by decide +kernel
theorem dX12_could_12 : decode cX12_could 12 = .ok (.isub, 1) := by decide +kernel
theorem dX12_could_13 : decode cX12_could 13 = .ok (.invokestatic 64, 3) := by decide +kernel
theorem dX12_could_16 : decode cX12_could 16 = .ok (.ifCond .eq 12, 3) := by decide +kernel
theorem dX12_could_19 : decode cX12_could 19 = .ok (.iload_n 2, 1) := by decide +kernel
theorem dX12_could_20 : decode cX12_could 20 = .ok (.iconst 0, 1) := by decide +kernel
theorem dX12_could_21 : decode cX12_could 21 = .ok (.iconst 2, 1) := by decide +kernel
theorem dX12_could_22 : decode cX12_could 22 = .ok (.invokestatic 64, 3) := by decide +kernel
theorem dX12_could_25 : decode cX12_could 25 = .ok (.ifCond .ne 5, 3) := by decide +kernel
theorem dX12_could_28 : decode cX12_could 28 = .ok (.iconst (-1), 1) := by decide +kernel
theorem dX12_could_29 : decode cX12_could 29 = .ok (.ireturn, 1) := by decide +kernel
theorem dX12_could_30 : decode cX12_could 30 = .ok (.iconst 0, 1) := by decide +kernel
theorem dX12_could_31 : decode cX12_could 31 = .ok (.istore_n 3, 1) := by decide +kernel
theorem dX12_could_32 : decode cX12_could 32 = .ok (.bipush (-9), 2) := by decide +kernel
theorem dX12_could_34 : decode cX12_could 34 = .ok (.istore 4, 2) := by decide +kernel
theorem dX12_could_36 : decode cX12_could 36 = .ok (.bipush (-9), 2) := by decide +kernel
theorem dX12_could_38 : decode cX12_could 38 = .ok (.istore 5, 2) := by decide +kernel
theorem dX12_could_40 : decode cX12_could 40 = .ok (.iconst 0, 1) := by decide +kernel
theorem dX12_could_41 : decode cX12_could 41 = .ok (.istore 6, 2) := by decide +kernel
theorem dX12_could_43 : decode cX12_could 43 = .ok (.iload 6, 2) := by decide +kernel
theorem dX12_could_45 : decode cX12_could 45 = .ok (.bipush 101, 2) := by decide +kernel
theorem dX12_could_47 : decode cX12_could 47 = .ok (.if_icmp .ge 69, 3) := by decide +kernel
theorem dX12_could_50 : decode cX12_could 50 = .ok (.aload_n 0, 1) := by decide +kernel
theorem dX12_could_51 : decode cX12_could 51 = .ok (.aload_n 0, 1) := by decide +kernel
theorem dX12_could_52 : decode cX12_could 52 = .ok (.getfield 38, 3) := by decide +kernel
theorem dX12_could_55 : decode cX12_could 55 = .ok (.iconst 4, 1) := by decide +kernel
theorem dX12_could_56 : decode cX12_could 56 = .ok (.iload_n 1, 1) := by decide +kernel
theorem dX12_could_57 : decode cX12_could 57 = .ok (.imul, 1) := by decide +kernel
theorem dX12_could_58 : decode cX12_could 58 = .ok (.iaload, 1) := by decide +kernel
theorem dX12_could_59 : decode cX12_could 59 = .ok (.iload 6, 2) := by decide +kernel
theorem dX12_could_61 : decode cX12_could 61 = .ok (.aload_n 0, 1) := by decide +kernel
theorem dX12_could_62 : decode cX12_could 62 = .ok (.getfield 38, 3) := by decide +kernel
theorem dX12_could_65 : decode cX12_could 65 = .ok (.iconst 4, 1) := by decide +kernel
theorem dX12_could_66 : decode cX12_could 66 = .ok (.iload_n 1, 1) := by decide +kernel
theorem dX12_could_67 : decode cX12_could 67 = .ok (.imul, 1) := by decide +kernel
theorem dX12_could_68 : decode cX12_could 68 = .ok (.iconst 2, 1) := by decide +kernel
theorem dX12_could_69 : decode cX12_could 69 = .ok (.iadd, 1) := by decide +kernel
theorem dX12_could_70 : decode cX12_could 70 = .ok (.iaload, 1) := by decide +kernel
theorem dX12_could_71 : decode cX12_could 71 = .ok (.invokevirtual 217, 3) := by decide +kernel
theorem dX12_could_74 : decode cX12_could 74 = .ok (.aload_n 0, 1) := by decide +kernel
theorem dX12_could_75 : decode cX12_could 75 = .ok (.getfield 38, 3) := by decide +kernel
theorem dX12_could_78 : decode cX12_could 78 = .ok (.iconst 4, 1) := by decide +kernel
theorem dX12_could_79 : decode cX12_could 79 = .ok (.iload_n 1, 1) := by decide +kernel
theorem dX12_could_80 : decode cX12_could 80 = .ok (.imul, 1) := by decide +kernel
theorem dX12_could_81 : decode cX12_could 81 = .ok (.iconst 3, 1) := by decide +kernel
theorem dX12_could_82 : decode cX12_could 82 = .ok (.iadd, 1) := by decide +kernel
theorem dX12_could_83 : decode cX12_could 83 = .ok (.iaload, 1) := by decide +kernel
theorem dX12_could_84 : decode cX12_could 84 = .ok (.if_icmp .ne 26, 3) := by decide +kernel
theorem dX12_could_87 : decode cX12_could 87 = .ok (.iinc 3 1, 3) := by decide +kernel
theorem dX12_could_90 : decode cX12_could 90 = .ok (.iload 4, 2) := by decide +kernel
theorem dX12_could_92 : decode cX12_could 92 = .ok (.bipush (-9), 2) := by decide +kernel
theorem dX12_could_94 : decode cX12_could 94 = .ok (.if_icmp .ne 8, 3) := by decide +kernel
theorem dX12_could_97 : decode cX12_could 97 = .ok (.iload 6, 2) := by decide +kernel
theorem dX12_could_99 : decode cX12_could 99 = .ok (.goto 5, 3) := by decide +kernel
theorem dX12_could_102 : decode cX12_could 102 = .ok (.iload 4, 2) := by decide +kernel
theorem dX12_could_104 : decode cX12_could 104 = .ok (.istore 4, 2) := by decide +kernel
theorem dX12_could_106 : decode cX12_could 106 = .ok (.iload 6, 2) := by decide +kernel
theorem dX12_could_108 : decode cX12_could 108 = .ok (.istore 5, 2) := by decide +kernel
theorem dX12_could_110 : decode cX12_could 110 = .ok (.iinc 6 1, 3) := by decide +kernel
theorem dX12_could_113 : decode cX12_could 113 = .ok (.goto (-70), 3) := by decide +kernel
theorem dX12_could_116 : decode cX12_could 116 = .ok (.iload_n 2, 1) := by decide +kernel
theorem dX12_could_117 : decode cX12_could 117 = .ok (.ifCond .ne 7, 3) := by decide +kernel
theorem dX12_could_120 : decode cX12_could 120 = .ok (.iload_n 3, 1) := by decide +kernel
theorem dX12_could_121 : decode cX12_could 121 = .ok (.goto 15, 3) := by decide +kernel
theorem dX12_could_124 : decode cX12_could 124 = .ok (.iload_n 2, 1) := by decide +kernel
theorem dX12_could_125 : decode cX12_could 125 = .ok (.iconst 1, 1) := by decide +kernel
theorem dX12_could_126 : decode cX12_could 126 = .ok (.if_icmp .ne 8, 3) := by decide +kernel
theorem dX12_could_129 : decode cX12_could 129 = .ok (.iload 4, 2) := by decide +kernel
theorem dX12_could_131 : decode cX12_could 131 = .ok (.goto 5, 3) := by decide +kernel
theorem dX12_could_134 : decode cX12_could 134 = .ok (.iload 5, 2) := by decide +kernel
theorem dX12_could_136 : decode cX12_could 136 = .ok (.ireturn, 1) := by decide +kernel
theorem dX12_liars_0 : decode cX12_liars 0 = .ok (.aload_n 0, 1) := by decide +kernel
theorem dX12_liars_1 : decode cX12_liars 1 = .ok (.iconst 0, 1) := by decide +kernel
theorem dX12_liars_2 : decode cX12_liars 2 = .ok (.putfield 61, 3) := by decide +kernel
theorem dX12_liars_5 : decode cX12_liars 5 = .ok (.iconst 0, 1) := by decide +kernel
theorem dX12_liars_6 : decode cX12_liars 6 = .ok (.istore_n 1, 1) := by decide +kernel
theorem dX12_liars_7 : decode cX12_liars 7 = .ok (.iconst 0, 1) := by decide +kernel
theorem dX12_liars_8 : decode cX12_liars 8 = .ok (.istore_n 2, 1) := by decide +kernel
theorem dX12_liars_9 : decode cX12_liars 9 = .ok (.iload_n 2, 1) := by decide +kernel
theorem dX12_liars_10 : decode cX12_liars 10 = .ok (.aload_n 0, 1) := by decide +kernel
theorem dX12_liars_11 : decode cX12_liars 11 = .ok (.getfield 139, 3) := by decide +kernel
theorem dX12_liars_14 : decode cX12_liars 14 = .ok (.if_icmp .ge 60, 3) := by decide +kernel
theorem dX12_liars_17 : decode cX12_liars 17 = .ok (.iconst 4, 1) := by decide +kernel
theorem dX12_liars_18 : decode cX12_liars 18 = .ok (.iload_n 2, 1) := by decide +kernel
theorem dX12_liars_19 : decode cX12_liars 19 = .ok (.imul, 1) := by decide +kernel
theorem dX12_liars_20 : decode cX12_liars 20 = .ok (.istore_n 3, 1) := by decide +kernel
theorem dX12_liars_21 : decode cX12_liars 21 = .ok (.iload_n 1, 1) := by decide +kernel
theorem dX12_liars_22 : decode cX12_liars 22 = .ok (.aload_n 0, 1) := by decide +kernel
theorem dX12_liars_23 : decode cX12_liars 23 = .ok (.aload_n 0, 1) := by decide +kernel
theorem dX12_liars_24 : decode cX12_liars 24 = .ok (.getfield 38, 3) := by decide +kernel
theorem dX12_liars_27 : decode cX12_liars 27 = .ok (.iload_n 3, 1) := by decide +kernel
theorem dX12_liars_28 : decode cX12_liars 28 = .ok (.iaload, 1) := by decide +kernel
theorem dX12_liars_29 : decode cX12_liars 29 = .ok (.aload_n 0, 1) := by decide +kernel
theorem dX12_liars_30 : decode cX12_liars 30 = .ok (.getfield 38, 3) := by decide +kernel
theorem dX12_liars_33 : decode cX12_liars 33 = .ok (.iload_n 3, 1) := by decide +kernel
theorem dX12_liars_34 : decode cX12_liars 34 = .ok (.iconst 1, 1) := by decide +kernel
theorem dX12_liars_35 : decode cX12_liars 35 = .ok (.iadd, 1) := by decide +kernel
theorem dX12_liars_36 : decode cX12_liars 36 = .ok (.iaload, 1) := by decide +kernel
theorem dX12_liars_37 : decode cX12_liars 37 = .ok (.aload_n 0, 1) := by decide +kernel
theorem dX12_liars_38 : decode cX12_liars 38 = .ok (.getfield 38, 3) := by decide +kernel
theorem dX12_liars_41 : decode cX12_liars 41 = .ok (.iload_n 3, 1) := by decide +kernel
theorem dX12_liars_42 : decode cX12_liars 42 = .ok (.iconst 2, 1) := by decide +kernel
theorem dX12_liars_43 : decode cX12_liars 43 = .ok (.iadd, 1) := by decide +kernel
theorem dX12_liars_44 : decode cX12_liars 44 = .ok (.iaload, 1) := by decide +kernel
theorem dX12_liars_45 : decode cX12_liars 45 = .ok (.invokevirtual 217, 3) := by decide +kernel
theorem dX12_liars_48 : decode cX12_liars 48 = .ok (.aload_n 0, 1) := by decide +kernel
theorem dX12_liars_49 : decode cX12_liars 49 = .ok (.getfield 38, 3) := by decide +kernel
theorem dX12_liars_52 : decode cX12_liars 52 = .ok (.iload_n 3, 1) := by decide +kernel
theorem dX12_liars_53 : decode cX12_liars 53 = .ok (.iconst 3, 1) := by decide +kernel
theorem dX12_liars_54 : decode cX12_liars 54 = .ok (.iadd, 1) := by decide +kernel
theorem dX12_liars_55 : decode cX12_liars 55 = .ok (.iaload, 1) := by decide +kernel
theorem dX12_liars_56 : decode cX12_liars 56 = .ok (.if_icmp .eq 9, 3) := by decide +kernel
theorem dX12_liars_59 : decode cX12_liars 59 = .ok (.iconst 1, 1) := by decide +kernel
theorem dX12_liars_60 : decode cX12_liars 60 = .ok (.iload_n 2, 1) := by decide +kernel
theorem dX12_liars_61 : decode cX12_liars 61 = .ok (.ishl, 1) := by decide +kernel
theorem dX12_liars_62 : decode cX12_liars 62 = .ok (.goto 4, 3) := by decide +kernel
theorem dX12_liars_65 : decode cX12_liars 65 = .ok (.iconst 0, 1) := by decide +kernel
theorem dX12_liars_66 : decode cX12_liars 66 = .ok (.ior, 1) := by decide +kernel
theorem dX12_liars_67 : decode cX12_liars 67 = .ok (.istore_n 1, 1) := by decide +kernel
theorem dX12_liars_68 : decode cX12_liars 68 = .ok (.iinc 2 1, 3) := by decide +kernel
theorem dX12_liars_71 : decode cX12_liars 71 = .ok (.goto (-62), 3) := by decide +kernel
theorem dX12_liars_74 : decode cX12_liars 74 = .ok (.iload_n 1, 1) := by decide +kernel
theorem dX12_liars_75 : decode cX12_liars 75 = .ok (.ireturn, 1) := by decide +kernel
theorem dX12_gcd_0 : decode cX12_gcd 0 = .ok (.lload_n 0, 1) := by decide +kernel
theorem dX12_gcd_1 : decode cX12_gcd 1 = .ok (.lstore 4, 2) := by decide +kernel
theorem dX12_gcd_3 : decode cX12_gcd 3 = .ok (.lload_n 2, 1) := by decide +kernel
theorem dX12_gcd_4 : decode cX12_gcd 4 = .ok (.lstore 6, 2) := by decide +kernel
theorem dX12_gcd_6 : decode cX12_gcd 6 = .ok (.lload 6, 2) := by decide +kernel
theorem dX12_gcd_8 : decode cX12_gcd 8 = .ok (.lconst 0, 1) := by decide +kernel
theorem dX12_gcd_9 : decode cX12_gcd 9 = .ok (.lcmp, 1) := by decide +kernel
theorem dX12_gcd_10 : decode cX12_gcd 10 = .ok (.ifCond .eq 21, 3) := by decide +kernel
theorem dX12_gcd_13 : decode cX12_gcd 13 = .ok (.lload 4, 2) := by decide +kernel
theorem dX12_gcd_15 : decode cX12_gcd 15 = .ok (.lload 6, 2) := by decide +kernel
theorem dX12_gcd_17 : decode cX12_gcd 17 = .ok (.lrem, 1) := by decide +kernel
theorem dX12_gcd_18 : decode cX12_gcd 18 = .ok (.lstore 8, 2) := by decide +kernel
theorem dX12_gcd_20 : decode cX12_gcd 20 = .ok (.lload 6, 2) := by decide +kernel
theorem dX12_gcd_22 : decode cX12_gcd 22 = .ok (.lstore 4, 2) := by decide +kernel
theorem dX12_gcd_24 : decode cX12_gcd 24 = .ok (.lload 8, 2) := by decide +kernel
theorem dX12_gcd_26 : decode cX12_gcd 26 = .ok (.lstore 6, 2) := by decide +kernel
theorem dX12_gcd_28 : decode cX12_gcd 28 = .ok (.goto (-22), 3) := by decide +kernel
theorem dX12_gcd_31 : decode cX12_gcd 31 = .ok (.lload 4, 2) := by decide +kernel
theorem dX12_gcd_33 : decode cX12_gcd 33 = .ok (.lreturn, 1) := by decide +kernel
theorem dX12_spreads_0 : decode cX12_spreads 0 = .ok (.iconst 0, 1) := by decide +kernel
theorem dX12_spreads_1 : decode cX12_spreads 1 = .ok (.istore_n 3, 1) := by decide +kernel
theorem dX12_spreads_2 : decode cX12_spreads 2 = .ok (.iload_n 3, 1) := by decide +kernel
theorem dX12_spreads_3 : decode cX12_spreads 3 = .ok (.bipush 101, 2) := by decide +kernel
theorem dX12_spreads_5 : decode cX12_spreads 5 = .ok (.if_icmp .ge 16, 3) := by decide +kernel
theorem dX12_spreads_8 : decode cX12_spreads 8 = .ok (.aload_n 0, 1) := by decide +kernel
theorem dX12_spreads_9 : decode cX12_spreads 9 = .ok (.getfield 51, 3) := by decide +kernel
theorem dX12_spreads_12 : decode cX12_spreads 12 = .ok (.iload_n 3, 1) := by decide +kernel
theorem dX12_spreads_13 : decode cX12_spreads 13 = .ok (.lconst 0, 1) := by decide +kernel
theorem dX12_spreads_14 : decode cX12_spreads 14 = .ok (.lastore, 1) := by decide +kernel
theorem dX12_spreads_15 : decode cX12_spreads 15 = .ok (.iinc 3 1, 3) := by decide +kernel
theorem dX12_spreads_18 : decode cX12_spreads 18 = .ok (.goto (-16), 3) := by decide +kernel
theorem dX12_spreads_21 : decode cX12_spreads 21 = .ok (.iconst 0, 1) := by decide +kernel
theorem dX12_spreads_22 : decode cX12_spreads 22 = .ok (.istore_n 3, 1) := by decide +kernel
theorem dX12_spreads_23 : decode cX12_spreads 23 = .ok (.iload_n 3, 1) := by decide +kernel
theorem dX12_spreads_24 : decode cX12_spreads 24 = .ok (.bipush 101, 2) := by decide +kernel
theorem dX12_spreads_26 : decode cX12_spreads 26 = .ok (.if_icmp .ge 74, 3) := by decide +kernel
theorem dX12_spreads_29 : decode cX12_spreads 29 = .ok (.aload_n 0, 1) := by decide +kernel
theorem dX12_spreads_30 : decode cX12_spreads 30 = .ok (.getfield 51, 3) := by decide +kernel
theorem dX12_spreads_33 : decode cX12_spreads 33 = .ok (.iload_n 3, 1) := by decide +kernel
theorem dX12_spreads_34 : decode cX12_spreads 34 = .ok (.aload_n 0, 1) := by decide +kernel
theorem dX12_spreads_35 : decode cX12_spreads 35 = .ok (.getfield 13, 3) := by decide +kernel
theorem dX12_spreads_38 : decode cX12_spreads 38 = .ok (.iconst 3, 1) := by decide +kernel
theorem dX12_spreads_39 : decode cX12_spreads 39 = .ok (.iload_n 1, 1) := by decide +kernel
theorem dX12_spreads_40 : decode cX12_spreads 40 = .ok (.imul, 1) := by decide +kernel
theorem dX12_spreads_41 : decode cX12_spreads 41 = .ok (.iconst 1, 1) := by decide +kernel
theorem dX12_spreads_42 : decode cX12_spreads 42 = .ok (.iadd, 1) := by decide +kernel
theorem dX12_spreads_43 : decode cX12_spreads 43 = .ok (.iaload, 1) := by decide +kernel
theorem dX12_spreads_44 : decode cX12_spreads 44 = .ok (.invokestatic 149, 3) := by decide +kernel
theorem dX12_spreads_47 : decode cX12_spreads 47 = .ok (.dup2, 1) := by decide +kernel
theorem dX12_spreads_48 : decode cX12_spreads 48 = .ok (.laload, 1) := by decide +kernel
theorem dX12_spreads_49 : decode cX12_spreads 49 = .ok (.aload_n 0, 1) := by decide +kernel
theorem dX12_spreads_50 : decode cX12_spreads 50 = .ok (.getfield 47, 3) := by decide +kernel
theorem dX12_spreads_53 : decode cX12_spreads 53 = .ok (.iload_n 3, 1) := by decide +kernel
theorem dX12_spreads_54 : decode cX12_spreads 54 = .ok (.laload, 1) := by decide +kernel
theorem dX12_spreads_55 : decode cX12_spreads 55 = .ok (.bipush 10, 2) := by decide +kernel
theorem dX12_spreads_57 : decode cX12_spreads 57 = .ok (.iload_n 2, 1) := by decide +kernel
theorem dX12_spreads_58 : decode cX12_spreads 58 = .ok (.isub, 1) := by decide +kernel
theorem dX12_spreads_59 : decode cX12_spreads 59 = .ok (.i2l, 1) := by decide +kernel
theorem dX12_spreads_60 : decode cX12_spreads 60 = .ok (.lmul, 1) := by decide +kernel
theorem dX12_spreads_61 : decode cX12_spreads 61 = .ok (.ladd, 1) := by decide +kernel
theorem dX12_spreads_62 : decode cX12_spreads 62 = .ok (.lastore, 1) := by decide +kernel
theorem dX12_spreads_63 : decode cX12_spreads 63 = .ok (.aload_n 0, 1) := by decide +kernel
theorem dX12_spreads_64 : decode cX12_spreads 64 = .ok (.getfield 51, 3) := by decide +kernel
theorem dX12_spreads_67 : decode cX12_spreads 67 = .ok (.iload_n 3, 1) := by decide +kernel
theorem dX12_spreads_68 : decode cX12_spreads 68 = .ok (.aload_n 0, 1) := by decide +kernel
theorem dX12_spreads_69 : decode cX12_spreads 69 = .ok (.getfield 13, 3) := by decide +kernel
theorem dX12_spreads_72 : decode cX12_spreads 72 = .ok (.iconst 3, 1) := by decide +kernel
theorem dX12_spreads_73 : decode cX12_spreads 73 = .ok (.iload_n 1, 1) := by decide +kernel
theorem dX12_spreads_74 : decode cX12_spreads 74 = .ok (.imul, 1) := by decide +kernel
theorem dX12_spreads_75 : decode cX12_spreads 75 = .ok (.iconst 2, 1) := by decide +kernel
theorem dX12_spreads_76 : decode cX12_spreads 76 = .ok (.iadd, 1) := by decide +kernel
theorem dX12_spreads_77 : decode cX12_spreads 77 = .ok (.iaload, 1) := by decide +kernel
theorem dX12_spreads_78 : decode cX12_spreads 78 = .ok (.invokestatic 152, 3) := by decide +kernel
theorem dX12_spreads_81 : decode cX12_spreads 81 = .ok (.dup2, 1) := by decide +kernel
theorem dX12_spreads_82 : decode cX12_spreads 82 = .ok (.laload, 1) := by decide +kernel
theorem dX12_spreads_83 : decode cX12_spreads 83 = .ok (.aload_n 0, 1) := by decide +kernel
theorem dX12_spreads_84 : decode cX12_spreads 84 = .ok (.getfield 47, 3) := by decide +kernel
theorem dX12_spreads_87 : decode cX12_spreads 87 = .ok (.iload_n 3, 1) := by decide +kernel
theorem dX12_spreads_88 : decode cX12_spreads 88 = .ok (.laload, 1) := by decide +kernel
theorem dX12_spreads_89 : decode cX12_spreads 89 = .ok (.iload_n 2, 1) := by decide +kernel
theorem dX12_spreads_90 : decode cX12_spreads 90 = .ok (.i2l, 1) := by decide +kernel
theorem dX12_spreads_91 : decode cX12_spreads 91 = .ok (.lmul, 1) := by decide +kernel
theorem dX12_spreads_92 : decode cX12_spreads 92 = .ok (.ladd, 1) := by decide +kernel
theorem dX12_spreads_93 : decode cX12_spreads 93 = .ok (.lastore, 1) := by decide +kernel
theorem dX12_spreads_94 : decode cX12_spreads 94 = .ok (.iinc 3 1, 3) := by decide +kernel
theorem dX12_spreads_97 : decode cX12_spreads 97 = .ok (.goto (-74), 3) := by decide +kernel
theorem dX12_spreads_100 : decode cX12_spreads 100 = .ok (.iconst 0, 1) := by decide +kernel
theorem dX12_spreads_101 : decode cX12_spreads 101 = .ok (.istore_n 3, 1) := by decide +kernel
theorem dX12_spreads_102 : decode cX12_spreads 102 = .ok (.iload_n 3, 1) := by decide +kernel
theorem dX12_spreads_103 : decode cX12_spreads 103 = .ok (.bipush 101, 2) := by decide +kernel
theorem dX12_spreads_105 : decode cX12_spreads 105 = .ok (.if_icmp .ge 21, 3) := by decide +kernel
theorem dX12_spreads_108 : decode cX12_spreads 108 = .ok (.aload_n 0, 1) := by decide +kernel
theorem dX12_spreads_109 : decode cX12_spreads 109 = .ok (.getfield 47, 3) := by decide +kernel
theorem dX12_spreads_112 : decode cX12_spreads 112 = .ok (.iload_n 3, 1) := by decide +kernel
theorem dX12_spreads_113 : decode cX12_spreads 113 = .ok (.aload_n 0, 1) := by decide +kernel
theorem dX12_spreads_114 : decode cX12_spreads 114 = .ok (.getfield 51, 3) := by decide +kernel
theorem dX12_spreads_117 : decode cX12_spreads 117 = .ok (.iload_n 3, 1) := by decide +kernel
theorem dX12_spreads_118 : decode cX12_spreads 118 = .ok (.laload, 1) := by decide +kernel
theorem dX12_spreads_119 : decode cX12_spreads 119 = .ok (.lastore, 1) := by decide +kernel
theorem dX12_spreads_120 : decode cX12_spreads 120 = .ok (.iinc 3 1, 3) := by decide +kernel
theorem dX12_spreads_123 : decode cX12_spreads 123 = .ok (.goto (-21), 3) := by decide +kernel
theorem dX12_spreads_126 : decode cX12_spreads 126 = .ok (.return_, 1) := by decide +kernel
theorem dX12_odds_0 : decode cX12_odds 0 = .ok (.aload_n 0, 1) := by decide +kernel
theorem dX12_odds_1 : decode cX12_odds 1 = .ok (.iconst 0, 1) := by decide +kernel
theorem dX12_odds_2 : decode cX12_odds 2 = .ok (.putfield 61, 3) := by decide +kernel
theorem dX12_odds_5 : decode cX12_odds 5 = .ok (.aload_n 0, 1) := by decide +kernel
theorem dX12_odds_6 : decode cX12_odds 6 = .ok (.iload_n 1, 1) := by decide +kernel
theorem dX12_odds_7 : decode cX12_odds 7 = .ok (.invokevirtual 142, 3) := by decide +kernel
theorem dX12_odds_10 : decode cX12_odds 10 = .ok (.ifCond .eq 44, 3) := by decide +kernel
theorem dX12_odds_13 : decode cX12_odds 13 = .ok (.iload_n 2, 1) := by decide +kernel
theorem dX12_odds_14 : decode cX12_odds 14 = .ok (.iconst 0, 1) := by decide +kernel
theorem dX12_odds_15 : decode cX12_odds 15 = .ok (.bipush 100, 2) := by decide +kernel
theorem dX12_odds_17 : decode cX12_odds 17 = .ok (.invokestatic 64, 3) := by decide +kernel
theorem dX12_odds_20 : decode cX12_odds 20 = .ok (.ifCond .eq 34, 3) := by decide +kernel
theorem dX12_odds_23 : decode cX12_odds 23 = .ok (.iload_n 3, 1) := by decide +kernel
theorem dX12_odds_24 : decode cX12_odds 24 = .ok (.iconst 0, 1) := by decide +kernel
theorem dX12_odds_25 : decode cX12_odds 25 = .ok (.bipush 10, 2) := by decide +kernel
theorem dX12_odds_27 : decode cX12_odds 27 = .ok (.invokestatic 64, 3) := by decide +kernel
theorem dX12_odds_30 : decode cX12_odds 30 = .ok (.ifCond .eq 24, 3) := by decide +kernel
theorem dX12_odds_33 : decode cX12_odds 33 = .ok (.iload 4, 2) := by decide +kernel
theorem dX12_odds_35 : decode cX12_odds 35 = .ok (.iconst 0, 1) := by decide +kernel
theorem dX12_odds_36 : decode cX12_odds 36 = .ok (.bipush 9, 2) := by decide +kernel
theorem dX12_odds_38 : decode cX12_odds 38 = .ok (.invokestatic 64, 3) := by decide +kernel
theorem dX12_odds_41 : decode cX12_odds 41 = .ok (.ifCond .eq 13, 3) := by decide +kernel
theorem dX12_odds_44 : decode cX12_odds 44 = .ok (.iload 5, 2) := by decide +kernel
theorem dX12_odds_46 : decode cX12_odds 46 = .ok (.iconst 0, 1) := by decide +kernel
theorem dX12_odds_47 : decode cX12_odds 47 = .ok (.iconst 1, 1) := by decide +kernel
theorem dX12_odds_48 : decode cX12_odds 48 = .ok (.invokestatic 64, 3) := by decide +kernel
theorem dX12_odds_51 : decode cX12_odds 51 = .ok (.ifCond .ne 7, 3) := by decide +kernel
theorem dX12_odds_54 : decode cX12_odds 54 = .ok (.ldc2_w 221, 3) := by decide +kernel
theorem dX12_odds_57 : decode cX12_odds 57 = .ok (.lreturn, 1) := by decide +kernel
theorem dX12_odds_58 : decode cX12_odds 58 = .ok (.iconst 0, 1) := by decide +kernel
theorem dX12_odds_59 : decode cX12_odds 59 = .ok (.istore 6, 2) := by decide +kernel
theorem dX12_odds_61 : decode cX12_odds 61 = .ok (.iload 6, 2) := by decide +kernel
theorem dX12_odds_63 : decode cX12_odds 63 = .ok (.bipush 101, 2) := by decide +kernel
theorem dX12_odds_65 : decode cX12_odds 65 = .ok (.if_icmp .ge 34, 3) := by decide +kernel
theorem dX12_odds_68 : decode cX12_odds 68 = .ok (.aload_n 0, 1) := by decide +kernel
theorem dX12_odds_69 : decode cX12_odds 69 = .ok (.getfield 47, 3) := by decide +kernel
theorem dX12_odds_72 : decode cX12_odds 72 = .ok (.iload 6, 2) := by decide +kernel
theorem dX12_odds_74 : decode cX12_odds 74 = .ok (.iload 6, 2) := by decide +kernel
theorem dX12_odds_76 : decode cX12_odds 76 = .ok (.aload_n 0, 1) := by decide +kernel
theorem dX12_odds_77 : decode cX12_odds 77 = .ok (.getfield 22, 3) := by decide +kernel
theorem dX12_odds_80 : decode cX12_odds 80 = .ok (.iconst 4, 1) := by decide +kernel
theorem dX12_odds_81 : decode cX12_odds 81 = .ok (.iload_n 1, 1) := by decide +kernel
theorem dX12_odds_82 : decode cX12_odds 82 = .ok (.iadd, 1) := by decide +kernel
theorem dX12_odds_83 : decode cX12_odds 83 = .ok (.iaload, 1) := by decide +kernel
theorem dX12_odds_84 : decode cX12_odds 84 = .ok (.if_icmp .ne 7, 3) := by decide +kernel
theorem dX12_odds_87 : decode cX12_odds 87 = .ok (.lconst 1, 1) := by decide +kernel
theorem dX12_odds_88 : decode cX12_odds 88 = .ok (.goto 4, 3) := by decide +kernel
theorem dX12_odds_91 : decode cX12_odds 91 = .ok (.lconst 0, 1) := by decide +kernel
theorem dX12_odds_92 : decode cX12_odds 92 = .ok (.lastore, 1) := by decide +kernel
theorem dX12_odds_93 : decode cX12_odds 93 = .ok (.iinc 6 1, 3) := by decide +kernel
theorem dX12_odds_96 : decode cX12_odds 96 = .ok (.goto (-35), 3) := by decide +kernel
theorem dX12_odds_99 : decode cX12_odds 99 = .ok (.lconst 1, 1) := by decide +kernel
theorem dX12_odds_100 : decode cX12_odds 100 = .ok (.lstore 6, 2) := by decide +kernel
theorem dX12_odds_102 : decode cX12_odds 102 = .ok (.iconst 0, 1) := by decide +kernel
theorem dX12_odds_103 : decode cX12_odds 103 = .ok (.istore 8, 2) := by decide +kernel
theorem dX12_odds_105 : decode cX12_odds 105 = .ok (.iload 8, 2) := by decide +kernel
theorem dX12_odds_107 : decode cX12_odds 107 = .ok (.iload 4, 2) := by decide +kernel
theorem dX12_odds_109 : decode cX12_odds 109 = .ok (.if_icmp .ge 23, 3) := by decide +kernel
theorem dX12_odds_112 : decode cX12_odds 112 = .ok (.aload_n 0, 1) := by decide +kernel
theorem dX12_odds_113 : decode cX12_odds 113 = .ok (.iload_n 1, 1) := by decide +kernel
theorem dX12_odds_114 : decode cX12_odds 114 = .ok (.iload_n 3, 1) := by decide +kernel
theorem dX12_odds_115 : decode cX12_odds 115 = .ok (.invokevirtual 223, 3) := by decide +kernel
theorem dX12_odds_118 : decode cX12_odds 118 = .ok (.lload 6, 2) := by decide +kernel
theorem dX12_odds_120 : decode cX12_odds 120 = .ok (.ldc2_w 226, 3) := by decide +kernel
theorem dX12_odds_123 : decode cX12_odds 123 = .ok (.lmul, 1) := by decide +kernel
theorem dX12_odds_124 : decode cX12_odds 124 = .ok (.lstore 6, 2) := by decide +kernel
theorem dX12_odds_126 : decode cX12_odds 126 = .ok (.iinc 8 1, 3) := by decide +kernel
theorem dX12_odds_129 : decode cX12_odds 129 = .ok (.goto (-24), 3) := by decide +kernel
theorem dX12_odds_132 : decode cX12_odds 132 = .ok (.lconst 0, 1) := by decide +kernel
theorem dX12_odds_133 : decode cX12_odds 133 = .ok (.lstore 8, 2) := by decide +kernel
theorem dX12_odds_135 : decode cX12_odds 135 = .ok (.iload_n 2, 1) := by decide +kernel
theorem dX12_odds_136 : decode cX12_odds 136 = .ok (.istore 10, 2) := by decide +kernel
theorem dX12_odds_138 : decode cX12_odds 138 = .ok (.iload 10, 2) := by decide +kernel
theorem dX12_odds_140 : decode cX12_odds 140 = .ok (.bipush 101, 2) := by decide +kernel
theorem dX12_odds_142 : decode cX12_odds 142 = .ok (.if_icmp .ge 21, 3) := by decide +kernel
theorem dX12_odds_145 : decode cX12_odds 145 = .ok (.lload 8, 2) := by decide +kernel
theorem dX12_odds_147 : decode cX12_odds 147 = .ok (.aload_n 0, 1) := by decide +kernel
theorem dX12_odds_148 : decode cX12_odds 148 = .ok (.getfield 47, 3) := by decide +kernel
theorem dX12_odds_151 : decode cX12_odds 151 = .ok (.iload 10, 2) := by decide +kernel
theorem dX12_odds_153 : decode cX12_odds 153 = .ok (.laload, 1) := by decide +kernel
theorem dX12_odds_154 : decode cX12_odds 154 = .ok (.ladd, 1) := by decide +kernel
theorem dX12_odds_155 : decode cX12_odds 155 = .ok (.lstore 8, 2) := by decide +kernel
theorem dX12_odds_157 : decode cX12_odds 157 = .ok (.iinc 10 1, 3) := by decide +kernel
theorem dX12_odds_160 : decode cX12_odds 160 = .ok (.goto (-22), 3) := by decide +kernel
theorem dX12_odds_163 : decode cX12_odds 163 = .ok (.lload 8, 2) := by decide +kernel
theorem dX12_odds_165 : decode cX12_odds 165 = .ok (.lload 6, 2) := by decide +kernel
theorem dX12_odds_167 : decode cX12_odds 167 = .ok (.invokestatic 228, 3) := by decide +kernel
theorem dX12_odds_170 : decode cX12_odds 170 = .ok (.lstore 10, 2) := by decide +kernel
theorem dX12_odds_172 : decode cX12_odds 172 = .ok (.iload 5, 2) := by decide +kernel
theorem dX12_odds_174 : decode cX12_odds 174 = .ok (.ifCond .ne 11, 3) := by decide +kernel
theorem dX12_odds_177 : decode cX12_odds 177 = .ok (.lload 8, 2) := by decide +kernel
theorem dX12_odds_179 : decode cX12_odds 179 = .ok (.lload 10, 2) := by decide +kernel
theorem dX12_odds_181 : decode cX12_odds 181 = .ok (.ldiv, 1) := by decide +kernel
theorem dX12_odds_182 : decode cX12_odds 182 = .ok (.goto 8, 3) := by decide +kernel
theorem dX12_odds_185 : decode cX12_odds 185 = .ok (.lload 6, 2) := by decide +kernel
theorem dX12_odds_187 : decode cX12_odds 187 = .ok (.lload 10, 2) := by decide +kernel
theorem dX12_odds_189 : decode cX12_odds 189 = .ok (.ldiv, 1) := by decide +kernel
theorem dX12_odds_190 : decode cX12_odds 190 = .ok (.lreturn, 1) := by decide +kernel
theorem dX12_rate_0 : decode cX12_rate 0 = .ok (.aload_n 0, 1) := by decide +kernel
theorem dX12_rate_1 : decode cX12_rate 1 = .ok (.iconst 0, 1) := by decide +kernel
theorem dX12_rate_2 : decode cX12_rate 2 = .ok (.putfield 61, 3) := by decide +kernel
theorem dX12_rate_5 : decode cX12_rate 5 = .ok (.iload_n 1, 1) := by decide +kernel
theorem dX12_rate_6 : decode cX12_rate 6 = .ok (.iconst 0, 1) := by decide +kernel
theorem dX12_rate_7 : decode cX12_rate 7 = .ok (.iconst 5, 1) := by decide +kernel
theorem dX12_rate_8 : decode cX12_rate 8 = .ok (.invokestatic 64, 3) := by decide +kernel
theorem dX12_rate_11 : decode cX12_rate 11 = .ok (.ifCond .eq 11, 3) := by decide +kernel
theorem dX12_rate_14 : decode cX12_rate 14 = .ok (.aload_n 0, 1) := by decide +kernel
theorem dX12_rate_15 : decode cX12_rate 15 = .ok (.iload_n 2, 1) := by decide +kernel
theorem dX12_rate_16 : decode cX12_rate 16 = .ok (.invokevirtual 142, 3) := by decide +kernel
theorem dX12_rate_19 : decode cX12_rate 19 = .ok (.ifCond .ne 6, 3) := by decide +kernel
theorem dX12_rate_22 : decode cX12_rate 22 = .ok (.ldc 232, 2) := by decide +kernel
theorem dX12_rate_24 : decode cX12_rate 24 = .ok (.ireturn, 1) := by decide +kernel
theorem dX12_rate_25 : decode cX12_rate 25 = .ok (.aload_n 0, 1) := by decide +kernel
theorem dX12_rate_26 : decode cX12_rate 26 = .ok (.getfield 22, 3) := by decide +kernel
theorem dX12_rate_29 : decode cX12_rate 29 = .ok (.iconst 4, 1) := by decide +kernel
theorem dX12_rate_30 : decode cX12_rate 30 = .ok (.iload_n 2, 1) := by decide +kernel
theorem dX12_rate_31 : decode cX12_rate 31 = .ok (.iadd, 1) := by decide +kernel
theorem dX12_rate_32 : decode cX12_rate 32 = .ok (.iaload, 1) := by decide +kernel
theorem dX12_rate_33 : decode cX12_rate 33 = .ok (.istore_n 3, 1) := by decide +kernel
theorem dX12_rate_34 : decode cX12_rate 34 = .ok (.iload_n 3, 1) := by decide +kernel
theorem dX12_rate_35 : decode cX12_rate 35 = .ok (.istore 4, 2) := by decide +kernel
theorem dX12_rate_37 : decode cX12_rate 37 = .ok (.iconst 0, 1) := by decide +kernel
theorem dX12_rate_38 : decode cX12_rate 38 = .ok (.istore 5, 2) := by decide +kernel
theorem dX12_rate_40 : decode cX12_rate 40 = .ok (.iload 5, 2) := by decide +kernel
theorem dX12_rate_42 : decode cX12_rate 42 = .ok (.aload_n 0, 1) := by decide +kernel
theorem dX12_rate_43 : decode cX12_rate 43 = .ok (.getfield 130, 3) := by decide +kernel
theorem dX12_rate_46 : decode cX12_rate 46 = .ok (.if_icmp .ge 32, 3) := by decide +kernel
theorem dX12_rate_49 : decode cX12_rate 49 = .ok (.iload 4, 2) := by decide +kernel
theorem dX12_rate_51 : decode cX12_rate 51 = .ok (.aload_n 0, 1) := by decide +kernel
theorem dX12_rate_52 : decode cX12_rate 52 = .ok (.getfield 16, 3) := by decide +kernel
theorem dX12_rate_55 : decode cX12_rate 55 = .ok (.iconst 3, 1) := by decide +kernel
theorem dX12_rate_56 : decode cX12_rate 56 = .ok (.iload 5, 2) := by decide +kernel
theorem dX12_rate_58 : decode cX12_rate 58 = .ok (.imul, 1) := by decide +kernel
theorem dX12_rate_59 : decode cX12_rate 59 = .ok (.iaload, 1) := by decide +kernel
theorem dX12_rate_60 : decode cX12_rate 60 = .ok (.iload_n 2, 1) := by decide +kernel
theorem dX12_rate_61 : decode cX12_rate 61 = .ok (.if_icmp .ne 7, 3) := by decide +kernel
theorem dX12_rate_64 : decode cX12_rate 64 = .ok (.iconst 1, 1) := by decide +kernel
theorem dX12_rate_65 : decode cX12_rate 65 = .ok (.goto 4, 3) := by decide +kernel
theorem dX12_rate_68 : decode cX12_rate 68 = .ok (.iconst 0, 1) := by decide +kernel
theorem dX12_rate_69 : decode cX12_rate 69 = .ok (.iadd, 1) := by decide +kernel
theorem dX12_rate_70 : decode cX12_rate 70 = .ok (.istore 4, 2) := by decide +kernel
theorem dX12_rate_72 : decode cX12_rate 72 = .ok (.iinc 5 1, 3) := by decide +kernel
theorem dX12_rate_75 : decode cX12_rate 75 = .ok (.goto (-35), 3) := by decide +kernel
theorem dX12_rate_78 : decode cX12_rate 78 = .ok (.iload_n 3, 1) := by decide +kernel
theorem dX12_rate_79 : decode cX12_rate 79 = .ok (.aload_n 0, 1) := by decide +kernel
theorem dX12_rate_80 : decode cX12_rate 80 = .ok (.getfield 13, 3) := by decide +kernel
theorem dX12_rate_83 : decode cX12_rate 83 = .ok (.iconst 3, 1) := by decide +kernel
theorem dX12_rate_84 : decode cX12_rate 84 = .ok (.iload_n 2, 1) := by decide +kernel
theorem dX12_rate_85 : decode cX12_rate 85 = .ok (.imul, 1) := by decide +kernel
theorem dX12_rate_86 : decode cX12_rate 86 = .ok (.iconst 2, 1) := by decide +kernel
theorem dX12_rate_87 : decode cX12_rate 87 = .ok (.iadd, 1) := by decide +kernel
theorem dX12_rate_88 : decode cX12_rate 88 = .ok (.iaload, 1) := by decide +kernel
theorem dX12_rate_89 : decode cX12_rate 89 = .ok (.isub, 1) := by decide +kernel
theorem dX12_rate_90 : decode cX12_rate 90 = .ok (.istore 5, 2) := by decide +kernel
theorem dX12_rate_92 : decode cX12_rate 92 = .ok (.aload_n 0, 1) := by decide +kernel
theorem dX12_rate_93 : decode cX12_rate 93 = .ok (.dup, 1) := by decide +kernel
theorem dX12_rate_94 : decode cX12_rate 94 = .ok (.getfield 233, 3) := by decide +kernel
theorem dX12_rate_97 : decode cX12_rate 97 = .ok (.iload_n 1, 1) := by decide +kernel
theorem dX12_rate_98 : decode cX12_rate 98 = .ok (.ifCond .ne 7, 3) := by decide +kernel
theorem dX12_rate_101 : decode cX12_rate 101 = .ok (.lconst 1, 1) := by decide +kernel
theorem dX12_rate_102 : decode cX12_rate 102 = .ok (.goto 50, 3) := by decide +kernel
theorem dX12_rate_105 : decode cX12_rate 105 = .ok (.iload_n 1, 1) := by decide +kernel
theorem dX12_rate_106 : decode cX12_rate 106 = .ok (.iconst 1, 1) := by decide +kernel
theorem dX12_rate_107 : decode cX12_rate 107 = .ok (.if_icmp .ne 9, 3) := by decide +kernel
theorem dX12_rate_110 : decode cX12_rate 110 = .ok (.ldc2_w 237, 3) := by decide +kernel
theorem dX12_rate_113 : decode cX12_rate 113 = .ok (.goto 39, 3) := by decide +kernel
theorem dX12_rate_116 : decode cX12_rate 116 = .ok (.iload_n 1, 1) := by decide +kernel
theorem dX12_rate_117 : decode cX12_rate 117 = .ok (.iconst 2, 1) := by decide +kernel
theorem dX12_rate_118 : decode cX12_rate 118 = .ok (.if_icmp .ne 9, 3) := by decide +kernel
theorem dX12_rate_121 : decode cX12_rate 121 = .ok (.ldc2_w 239, 3) := by decide +kernel
theorem dX12_rate_124 : decode cX12_rate 124 = .ok (.goto 28, 3) := by decide +kernel
theorem dX12_rate_127 : decode cX12_rate 127 = .ok (.iload_n 1, 1) := by decide +kernel
theorem dX12_rate_128 : decode cX12_rate 128 = .ok (.iconst 3, 1) := by decide +kernel
theorem dX12_rate_129 : decode cX12_rate 129 = .ok (.if_icmp .ne 9, 3) := by decide +kernel
theorem dX12_rate_132 : decode cX12_rate 132 = .ok (.ldc2_w 241, 3) := by decide +kernel
theorem dX12_rate_135 : decode cX12_rate 135 = .ok (.goto 17, 3) := by decide +kernel
theorem dX12_rate_138 : decode cX12_rate 138 = .ok (.iload_n 1, 1) := by decide +kernel
theorem dX12_rate_139 : decode cX12_rate 139 = .ok (.iconst 4, 1) := by decide +kernel
theorem dX12_rate_140 : decode cX12_rate 140 = .ok (.if_icmp .ne 9, 3) := by decide +kernel
theorem dX12_rate_143 : decode cX12_rate 143 = .ok (.ldc2_w 243, 3) := by decide +kernel
theorem dX12_rate_146 : decode cX12_rate 146 = .ok (.goto 6, 3) := by decide +kernel
theorem dX12_rate_149 : decode cX12_rate 149 = .ok (.ldc2_w 245, 3) := by decide +kernel
theorem dX12_rate_152 : decode cX12_rate 152 = .ok (.ladd, 1) := by decide +kernel
theorem dX12_rate_153 : decode cX12_rate 153 = .ok (.putfield 233, 3) := by decide +kernel
theorem dX12_rate_156 : decode cX12_rate 156 = .ok (.iload_n 1, 1) := by decide +kernel
theorem dX12_rate_157 : decode cX12_rate 157 = .ok (.ifCond .ne 7, 3) := by decide +kernel
theorem dX12_rate_160 : decode cX12_rate 160 = .ok (.iload_n 3, 1) := by decide +kernel
theorem dX12_rate_161 : decode cX12_rate 161 = .ok (.goto 58, 3) := by decide +kernel
theorem dX12_rate_164 : decode cX12_rate 164 = .ok (.iload_n 1, 1) := by decide +kernel
theorem dX12_rate_165 : decode cX12_rate 165 = .ok (.iconst 1, 1) := by decide +kernel
theorem dX12_rate_166 : decode cX12_rate 166 = .ok (.if_icmp .ne 8, 3) := by decide +kernel
theorem dX12_rate_169 : decode cX12_rate 169 = .ok (.iload 4, 2) := by decide +kernel
theorem dX12_rate_171 : decode cX12_rate 171 = .ok (.goto 48, 3) := by decide +kernel
theorem dX12_rate_174 : decode cX12_rate 174 = .ok (.iload_n 1, 1) := by decide +kernel
theorem dX12_rate_175 : decode cX12_rate 175 = .ok (.iconst 2, 1) := by decide +kernel
theorem dX12_rate_176 : decode cX12_rate 176 = .ok (.if_icmp .ne 8, 3) := by decide +kernel
theorem dX12_rate_179 : decode cX12_rate 179 = .ok (.iload 5, 2) := by decide +kernel
theorem dX12_rate_181 : decode cX12_rate 181 = .ok (.goto 38, 3) := by decide +kernel
theorem dX12_rate_184 : decode cX12_rate 184 = .ok (.iload_n 1, 1) := by decide +kernel
theorem dX12_rate_185 : decode cX12_rate 185 = .ok (.iconst 3, 1) := by decide +kernel
theorem dX12_rate_186 : decode cX12_rate 186 = .ok (.if_icmp .ne 10, 3) := by decide +kernel
theorem dX12_rate_189 : decode cX12_rate 189 = .ok (.iconst 2, 1) := by decide +kernel
theorem dX12_rate_190 : decode cX12_rate 190 = .ok (.iload 4, 2) := by decide +kernel
theorem dX12_rate_192 : decode cX12_rate 192 = .ok (.imul, 1) := by decide +kernel
theorem dX12_rate_193 : decode cX12_rate 193 = .ok (.goto 26, 3) := by decide +kernel
theorem dX12_rate_196 : decode cX12_rate 196 = .ok (.iload_n 1, 1) := by decide +kernel
theorem dX12_rate_197 : decode cX12_rate 197 = .ok (.iconst 4, 1) := by decide +kernel
theorem dX12_rate_198 : decode cX12_rate 198 = .ok (.if_icmp .ne 10, 3) := by decide +kernel
theorem dX12_rate_201 : decode cX12_rate 201 = .ok (.iload 5, 2) := by decide +kernel
theorem dX12_rate_203 : decode cX12_rate 203 = .ok (.iload_n 2, 1) := by decide +kernel
theorem dX12_rate_204 : decode cX12_rate 204 = .ok (.iadd, 1) := by decide +kernel
theorem dX12_rate_205 : decode cX12_rate 205 = .ok (.goto 14, 3) := by decide +kernel
theorem dX12_rate_208 : decode cX12_rate 208 = .ok (.iload_n 3, 1) := by decide +kernel
theorem dX12_rate_209 : decode cX12_rate 209 = .ok (.aload_n 0, 1) := by decide +kernel
theorem dX12_rate_210 : decode cX12_rate 210 = .ok (.getfield 22, 3) := by decide +kernel
theorem dX12_rate_213 : decode cX12_rate 213 = .ok (.bipush 9, 2) := by decide +kernel
theorem dX12_rate_215 : decode cX12_rate 215 = .ok (.iload_n 2, 1) := by decide +kernel
theorem dX12_rate_216 : decode cX12_rate 216 = .ok (.iadd, 1) := by decide +kernel
theorem dX12_rate_217 : decode cX12_rate 217 = .ok (.iaload, 1) := by decide +kernel
theorem dX12_rate_218 : decode cX12_rate 218 = .ok (.iadd, 1) := by decide +kernel
theorem dX12_rate_219 : decode cX12_rate 219 = .ok (.ireturn, 1) := by decide +kernel
theorem dX12_keep_0 : decode cX12_keep 0 = .ok (.aload_n 0, 1) := by decide +kernel
theorem dX12_keep_1 : decode cX12_keep 1 = .ok (.iconst 0, 1) := by decide +kernel
theorem dX12_keep_2 : decode cX12_keep 2 = .ok (.putfield 61, 3) := by decide +kernel
theorem dX12_keep_5 : decode cX12_keep 5 = .ok (.iload_n 1, 1) := by decide +kernel
theorem dX12_keep_6 : decode cX12_keep 6 = .ok (.iconst 0, 1) := by decide +kernel
theorem dX12_keep_7 : decode cX12_keep 7 = .ok (.iconst 1, 1) := by decide +kernel
theorem dX12_keep_8 : decode cX12_keep 8 = .ok (.invokestatic 64, 3) := by decide +kernel
theorem dX12_keep_11 : decode cX12_keep 11 = .ok (.ifCond .ne 5, 3) := by decide +kernel
theorem dX12_keep_14 : decode cX12_keep 14 = .ok (.iconst (-1), 1) := by decide +kernel
theorem dX12_keep_15 : decode cX12_keep 15 = .ok (.ireturn, 1) := by decide +kernel
theorem dX12_keep_16 : decode cX12_keep 16 = .ok (.iconst 0, 1) := by decide +kernel
theorem dX12_keep_17 : decode cX12_keep 17 = .ok (.istore_n 2, 1) := by decide +kernel
theorem dX12_keep_18 : decode cX12_keep 18 = .ok (.iload_n 2, 1) := by decide +kernel
theorem dX12_keep_19 : decode cX12_keep 19 = .ok (.bipush 14, 2) := by decide +kernel
theorem dX12_keep_21 : decode cX12_keep 21 = .ok (.if_icmp .ge 26, 3) := by decide +kernel
theorem dX12_keep_24 : decode cX12_keep 24 = .ok (.aload_n 0, 1) := by decide +kernel
theorem dX12_keep_25 : decode cX12_keep 25 = .ok (.getfield 28, 3) := by decide +kernel
theorem dX12_keep_28 : decode cX12_keep 28 = .ok (.bipush 14, 2) := by decide +kernel
theorem dX12_keep_30 : decode cX12_keep 30 = .ok (.iload_n 1, 1) := by decide +kernel
theorem dX12_keep_31 : decode cX12_keep 31 = .ok (.imul, 1) := by decide +kernel
theorem dX12_keep_32 : decode cX12_keep 32 = .ok (.iload_n 2, 1) := by decide +kernel
theorem dX12_keep_33 : decode cX12_keep 33 = .ok (.iadd, 1) := by decide +kernel
theorem dX12_keep_34 : decode cX12_keep 34 = .ok (.aload_n 0, 1) := by decide +kernel
theorem dX12_keep_35 : decode cX12_keep 35 = .ok (.getfield 22, 3) := by decide +kernel
theorem dX12_keep_38 : decode cX12_keep 38 = .ok (.iload_n 2, 1) := by decide +kernel
theorem dX12_keep_39 : decode cX12_keep 39 = .ok (.iaload, 1) := by decide +kernel
theorem dX12_keep_40 : decode cX12_keep 40 = .ok (.iastore, 1) := by decide +kernel
theorem dX12_keep_41 : decode cX12_keep 41 = .ok (.iinc 2 1, 3) := by decide +kernel
theorem dX12_keep_44 : decode cX12_keep 44 = .ok (.goto (-26), 3) := by decide +kernel
theorem dX12_keep_47 : decode cX12_keep 47 = .ok (.aload_n 0, 1) := by decide +kernel
theorem dX12_keep_48 : decode cX12_keep 48 = .ok (.getfield 31, 3) := by decide +kernel
theorem dX12_keep_51 : decode cX12_keep 51 = .ok (.iload_n 1, 1) := by decide +kernel
theorem dX12_keep_52 : decode cX12_keep 52 = .ok (.iconst 1, 1) := by decide +kernel
theorem dX12_keep_53 : decode cX12_keep 53 = .ok (.bastore, 1) := by decide +kernel
theorem dX12_keep_54 : decode cX12_keep 54 = .ok (.aload_n 0, 1) := by decide +kernel
theorem dX12_keep_55 : decode cX12_keep 55 = .ok (.getfield 22, 3) := by decide +kernel
theorem dX12_keep_58 : decode cX12_keep 58 = .ok (.iconst 0, 1) := by decide +kernel
theorem dX12_keep_59 : decode cX12_keep 59 = .ok (.iaload, 1) := by decide +kernel
theorem dX12_keep_60 : decode cX12_keep 60 = .ok (.ireturn, 1) := by decide +kernel
theorem dX12_back_0 : decode cX12_back 0 = .ok (.aload_n 0, 1) := by decide +kernel
theorem dX12_back_1 : decode cX12_back 1 = .ok (.iconst 0, 1) := by decide +kernel
theorem dX12_back_2 : decode cX12_back 2 = .ok (.putfield 61, 3) := by decide +kernel
theorem dX12_back_5 : decode cX12_back 5 = .ok (.iload_n 1, 1) := by decide +kernel
theorem dX12_back_6 : decode cX12_back 6 = .ok (.iconst 0, 1) := by decide +kernel
theorem dX12_back_7 : decode cX12_back 7 = .ok (.iconst 1, 1) := by decide +kernel
theorem dX12_back_8 : decode cX12_back 8 = .ok (.invokestatic 64, 3) := by decide +kernel
theorem dX12_back_11 : decode cX12_back 11 = .ok (.ifCond .ne 5, 3) := by decide +kernel
theorem dX12_back_14 : decode cX12_back 14 = .ok (.iconst (-1), 1) := by decide +kernel
theorem dX12_back_15 : decode cX12_back 15 = .ok (.ireturn, 1) := by decide +kernel
theorem dX12_back_16 : decode cX12_back 16 = .ok (.aload_n 0, 1) := by decide +kernel
theorem dX12_back_17 : decode cX12_back 17 = .ok (.getfield 31, 3) := by decide +kernel
theorem dX12_back_20 : decode cX12_back 20 = .ok (.iload_n 1, 1) := by decide +kernel
theorem dX12_back_21 : decode cX12_back 21 = .ok (.baload, 1) := by decide +kernel
theorem dX12_back_22 : decode cX12_back 22 = .ok (.ifCond .ne 6, 3) := by decide +kernel
theorem dX12_back_25 : decode cX12_back 25 = .ok (.bipush (-2), 2) := by decide +kernel
theorem dX12_back_27 : decode cX12_back 27 = .ok (.ireturn, 1) := by decide +kernel
theorem dX12_back_28 : decode cX12_back 28 = .ok (.iconst 0, 1) := by decide +kernel
theorem dX12_back_29 : decode cX12_back 29 = .ok (.istore_n 2, 1) := by decide +kernel
theorem dX12_back_30 : decode cX12_back 30 = .ok (.iload_n 2, 1) := by decide +kernel
theorem dX12_back_31 : decode cX12_back 31 = .ok (.bipush 14, 2) := by decide +kernel
theorem dX12_back_33 : decode cX12_back 33 = .ok (.if_icmp .ge 26, 3) := by decide +kernel
theorem dX12_back_36 : decode cX12_back 36 = .ok (.aload_n 0, 1) := by decide +kernel
theorem dX12_back_37 : decode cX12_back 37 = .ok (.getfield 22, 3) := by decide +kernel
theorem dX12_back_40 : decode cX12_back 40 = .ok (.iload_n 2, 1) := by decide +kernel
theorem dX12_back_41 : decode cX12_back 41 = .ok (.aload_n 0, 1) := by decide +kernel
theorem dX12_back_42 : decode cX12_back 42 = .ok (.getfield 28, 3) := by decide +kernel
theorem dX12_back_45 : decode cX12_back 45 = .ok (.bipush 14, 2) := by decide +kernel
theorem dX12_back_47 : decode cX12_back 47 = .ok (.iload_n 1, 1) := by decide +kernel
theorem dX12_back_48 : decode cX12_back 48 = .ok (.imul, 1) := by decide +kernel
theorem dX12_back_49 : decode cX12_back 49 = .ok (.iload_n 2, 1) := by decide +kernel
theorem dX12_back_50 : decode cX12_back 50 = .ok (.iadd, 1) := by decide +kernel
theorem dX12_back_51 : decode cX12_back 51 = .ok (.iaload, 1) := by decide +kernel
theorem dX12_back_52 : decode cX12_back 52 = .ok (.iastore, 1) := by decide +kernel
theorem dX12_back_53 : decode cX12_back 53 = .ok (.iinc 2 1, 3) := by decide +kernel
theorem dX12_back_56 : decode cX12_back 56 = .ok (.goto (-26), 3) := by decide +kernel
theorem dX12_back_59 : decode cX12_back 59 = .ok (.aload_n 0, 1) := by decide +kernel
theorem dX12_back_60 : decode cX12_back 60 = .ok (.iconst 0, 1) := by decide +kernel
theorem dX12_back_61 : decode cX12_back 61 = .ok (.putfield 136, 3) := by decide +kernel
theorem dX12_back_64 : decode cX12_back 64 = .ok (.aload_n 0, 1) := by decide +kernel
theorem dX12_back_65 : decode cX12_back 65 = .ok (.getfield 22, 3) := by decide +kernel
theorem dX12_back_68 : decode cX12_back 68 = .ok (.iconst 0, 1) := by decide +kernel
theorem dX12_back_69 : decode cX12_back 69 = .ok (.iaload, 1) := by decide +kernel
theorem dX12_back_70 : decode cX12_back 70 = .ok (.ireturn, 1) := by decide +kernel
theorem dX12_count_0 : decode cX12_count 0 = .ok (.aload_n 0, 1) := by decide +kernel
theorem dX12_count_1 : decode cX12_count 1 = .ok (.iconst 0, 1) := by decide +kernel
theorem dX12_count_2 : decode cX12_count 2 = .ok (.putfield 61, 3) := by decide +kernel
theorem dX12_count_5 : decode cX12_count 5 = .ok (.iload_n 1, 1) := by decide +kernel
theorem dX12_count_6 : decode cX12_count 6 = .ok (.iconst 3, 1) := by decide +kernel
theorem dX12_count_7 : decode cX12_count 7 = .ok (.if_icmp .ge 40, 3) := by decide +kernel
theorem dX12_count_10 : decode cX12_count 10 = .ok (.iload_n 1, 1) := by decide +kernel
theorem dX12_count_11 : decode cX12_count 11 = .ok (.ifCond .ne 10, 3) := by decide +kernel
theorem dX12_count_14 : decode cX12_count 14 = .ok (.aload_n 0, 1) := by decide +kernel
theorem dX12_count_15 : decode cX12_count 15 = .ok (.getfield 127, 3) := by decide +kernel
theorem dX12_count_18 : decode cX12_count 18 = .ok (.goto 28, 3) := by decide +kernel
theorem dX12_count_21 : decode cX12_count 21 = .ok (.iload_n 1, 1) := by decide +kernel
theorem dX12_count_22 : decode cX12_count 22 = .ok (.iconst 1, 1) := by decide +kernel
theorem dX12_count_23 : decode cX12_count 23 = .ok (.if_icmp .ne 10, 3) := by decide +kernel
theorem dX12_count_26 : decode cX12_count 26 = .ok (.aload_n 0, 1) := by decide +kernel
theorem dX12_count_27 : decode cX12_count 27 = .ok (.getfield 57, 3) := by decide +kernel
theorem dX12_count_30 : decode cX12_count 30 = .ok (.goto 16, 3) := by decide +kernel
theorem dX12_count_33 : decode cX12_count 33 = .ok (.iload_n 1, 1) := by decide +kernel
theorem dX12_count_34 : decode cX12_count 34 = .ok (.iconst 2, 1) := by decide +kernel
theorem dX12_count_35 : decode cX12_count 35 = .ok (.if_icmp .ne 10, 3) := by decide +kernel
theorem dX12_count_38 : decode cX12_count 38 = .ok (.aload_n 0, 1) := by decide +kernel
theorem dX12_count_39 : decode cX12_count 39 = .ok (.getfield 130, 3) := by decide +kernel
theorem dX12_count_42 : decode cX12_count 42 = .ok (.goto 4, 3) := by decide +kernel
theorem dX12_count_45 : decode cX12_count 45 = .ok (.iconst (-1), 1) := by decide +kernel
theorem dX12_count_46 : decode cX12_count 46 = .ok (.ireturn, 1) := by decide +kernel
theorem dX12_count_47 : decode cX12_count 47 = .ok (.iload_n 1, 1) := by decide +kernel
theorem dX12_count_48 : decode cX12_count 48 = .ok (.iconst 3, 1) := by decide +kernel
theorem dX12_count_49 : decode cX12_count 49 = .ok (.if_icmp .ne 10, 3) := by decide +kernel
theorem dX12_count_52 : decode cX12_count 52 = .ok (.aload_n 0, 1) := by decide +kernel
theorem dX12_count_53 : decode cX12_count 53 = .ok (.getfield 133, 3) := by decide +kernel
theorem dX12_count_56 : decode cX12_count 56 = .ok (.goto 28, 3) := by decide +kernel
theorem dX12_count_59 : decode cX12_count 59 = .ok (.iload_n 1, 1) := by decide +kernel
theorem dX12_count_60 : decode cX12_count 60 = .ok (.iconst 4, 1) := by decide +kernel
theorem dX12_count_61 : decode cX12_count 61 = .ok (.if_icmp .ne 10, 3) := by decide +kernel
theorem dX12_count_64 : decode cX12_count 64 = .ok (.aload_n 0, 1) := by decide +kernel
theorem dX12_count_65 : decode cX12_count 65 = .ok (.getfield 139, 3) := by decide +kernel
theorem dX12_count_68 : decode cX12_count 68 = .ok (.goto 16, 3) := by decide +kernel
theorem dX12_count_71 : decode cX12_count 71 = .ok (.iload_n 1, 1) := by decide +kernel
theorem dX12_count_72 : decode cX12_count 72 = .ok (.iconst 5, 1) := by decide +kernel
theorem dX12_count_73 : decode cX12_count 73 = .ok (.if_icmp .ne 10, 3) := by decide +kernel
theorem dX12_count_76 : decode cX12_count 76 = .ok (.aload_n 0, 1) := by decide +kernel
theorem dX12_count_77 : decode cX12_count 77 = .ok (.getfield 68, 3) := by decide +kernel
theorem dX12_count_80 : decode cX12_count 80 = .ok (.goto 4, 3) := by decide +kernel
theorem dX12_count_83 : decode cX12_count 83 = .ok (.iconst (-1), 1) := by decide +kernel
theorem dX12_count_84 : decode cX12_count 84 = .ok (.ireturn, 1) := by decide +kernel
theorem dX12_trace_0 : decode cX12_trace 0 = .ok (.aload_n 0, 1) := by decide +kernel
theorem dX12_trace_1 : decode cX12_trace 1 = .ok (.iconst 0, 1) := by decide +kernel
theorem dX12_trace_2 : decode cX12_trace 2 = .ok (.putfield 61, 3) := by decide +kernel
theorem dX12_trace_5 : decode cX12_trace 5 = .ok (.aload_n 0, 1) := by decide +kernel
theorem dX12_trace_6 : decode cX12_trace 6 = .ok (.getfield 233, 3) := by decide +kernel
theorem dX12_trace_9 : decode cX12_trace 9 = .ok (.lreturn, 1) := by decide +kernel
end
section
theorem dL_law_0 : decode cL_law 0 = .ok (.new 7, 3) := by decide +kernel
theorem dL_law_3 : decode cL_law 3 = .ok (.dup, 1) := by decide +kernel
theorem dL_law_4 : decode cL_law 4 = .ok (.invokespecial 9, 3) := by decide +kernel
theorem dL_law_7 : decode cL_law 7 = .ok (.astore_n 1, 1) := by decide +kernel
theorem dL_law_8 : decode cL_law 8 = .ok (.new 10, 3) := by decide +kernel
theorem dL_law_11 : decode cL_law 11 = .ok (.dup, 1) := by decide +kernel
theorem dL_law_12 : decode cL_law 12 = .ok (.invokespecial 12, 3) := by decide +kernel
theorem dL_law_15 : decode cL_law 15 = .ok (.astore_n 2, 1) := by decide +kernel
theorem dL_law_16 : decode cL_law 16 = .ok (.iconst 0, 1) := by decide +kernel
theorem dL_law_17 : decode cL_law 17 = .ok (.istore_n 3, 1) := by decide +kernel
theorem dL_law_18 : decode cL_law 18 = .ok (.iload_n 3, 1) := by decide +kernel
theorem dL_law_19 : decode cL_law 19 = .ok (.aload_n 0, 1) := by decide +kernel
theorem dL_law_20 : decode cL_law 20 = .ok (.arraylength, 1) := by decide +kernel
theorem dL_law_21 : decode cL_law 21 = .ok (.bipush 6, 2) := by decide +kernel
theorem dL_law_23 : decode cL_law 23 = .ok (.isub, 1) := by decide +kernel
theorem dL_law_24 : decode cL_law 24 = .ok (.if_icmp .gt 760, 3) := by decide +kernel
theorem dL_law_27 : decode cL_law 27 = .ok (.aload_n 0, 1) := by decide +kernel
theorem dL_law_28 : decode cL_law 28 = .ok (.iload_n 3, 1) := by decide +kernel
theorem dL_law_29 : decode cL_law 29 = .ok (.iaload, 1) := by decide +kernel
theorem dL_law_30 : decode cL_law 30 = .ok (.bipush 31, 2) := by decide +kernel
theorem dL_law_32 : decode cL_law 32 = .ok (.iand, 1) := by decide +kernel
theorem dL_law_33 : decode cL_law 33 = .ok (.tableswitch 745 0 23 #[111, 134, 147, 160, 193, 226, 249, 272, 285, 318, 331, 354, 387, 420, 453, 506, 519, 552, 565, 629, 662, 685, 708, 731], 111) := by decide +kernel
theorem dL_law_144 : decode cL_law 144 = .ok (.aload_n 1, 1) := by decide +kernel
theorem dL_law_145 : decode cL_law 145 = .ok (.aload_n 0, 1) := by decide +kernel
theorem dL_law_146 : decode cL_law 146 = .ok (.iload_n 3, 1) := by decide +kernel
theorem dL_law_147 : decode cL_law 147 = .ok (.iconst 1, 1) := by decide +kernel
theorem dL_law_148 : decode cL_law 148 = .ok (.iadd, 1) := by decide +kernel
theorem dL_law_149 : decode cL_law 149 = .ok (.iaload, 1) := by decide +kernel
theorem dL_law_150 : decode cL_law 150 = .ok (.invokevirtual 13, 3) := by decide +kernel
theorem dL_law_153 : decode cL_law 153 = .ok (.aload_n 2, 1) := by decide +kernel
theorem dL_law_154 : decode cL_law 154 = .ok (.aload_n 0, 1) := by decide +kernel
theorem dL_law_155 : decode cL_law 155 = .ok (.iload_n 3, 1) := by decide +kernel
theorem dL_law_156 : decode cL_law 156 = .ok (.iconst 1, 1) := by decide +kernel
theorem dL_law_157 : decode cL_law 157 = .ok (.iadd, 1) := by decide +kernel
theorem dL_law_158 : decode cL_law 158 = .ok (.iaload, 1) := by decide +kernel
theorem dL_law_159 : decode cL_law 159 = .ok (.invokevirtual 17, 3) := by decide +kernel
theorem dL_law_162 : decode cL_law 162 = .ok (.if_icmp .eq 616, 3) := by decide +kernel
theorem dL_law_165 : decode cL_law 165 = .ok (.iconst 0, 1) := by decide +kernel
theorem dL_law_166 : decode cL_law 166 = .ok (.ireturn, 1) := by decide +kernel
theorem dL_law_167 : decode cL_law 167 = .ok (.aload_n 1, 1) := by decide +kernel
theorem dL_law_168 : decode cL_law 168 = .ok (.invokevirtual 18, 3) := by decide +kernel
theorem dL_law_171 : decode cL_law 171 = .ok (.aload_n 2, 1) := by decide +kernel
theorem dL_law_172 : decode cL_law 172 = .ok (.invokevirtual 22, 3) := by decide +kernel
theorem dL_law_175 : decode cL_law 175 = .ok (.if_icmp .eq 603, 3) := by decide +kernel
theorem dL_law_178 : decode cL_law 178 = .ok (.iconst 0, 1) := by decide +kernel
theorem dL_law_179 : decode cL_law 179 = .ok (.ireturn, 1) := by decide +kernel
theorem dL_law_180 : decode cL_law 180 = .ok (.aload_n 1, 1) := by decide +kernel
theorem dL_law_181 : decode cL_law 181 = .ok (.invokevirtual 23, 3) := by decide +kernel
theorem dL_law_184 : decode cL_law 184 = .ok (.aload_n 2, 1) := by decide +kernel
theorem dL_law_185 : decode cL_law 185 = .ok (.invokevirtual 26, 3) := by decide +kernel
theorem dL_law_188 : decode cL_law 188 = .ok (.if_icmp .eq 590, 3) := by decide +kernel
theorem dL_law_191 : decode cL_law 191 = .ok (.iconst 0, 1) := by decide +kernel
theorem dL_law_192 : decode cL_law 192 = .ok (.ireturn, 1) := by decide +kernel
theorem dL_law_193 : decode cL_law 193 = .ok (.aload_n 1, 1) := by decide +kernel
theorem dL_law_194 : decode cL_law 194 = .ok (.aload_n 0, 1) := by decide +kernel
theorem dL_law_195 : decode cL_law 195 = .ok (.iload_n 3, 1) := by decide +kernel
theorem dL_law_196 : decode cL_law 196 = .ok (.iconst 1, 1) := by decide +kernel
theorem dL_law_197 : decode cL_law 197 = .ok (.iadd, 1) := by decide +kernel
theorem dL_law_198 : decode cL_law 198 = .ok (.iaload, 1) := by decide +kernel
theorem dL_law_199 : decode cL_law 199 = .ok (.aload_n 0, 1) := by decide +kernel
theorem dL_law_200 : decode cL_law 200 = .ok (.iload_n 3, 1) := by decide +kernel
theorem dL_law_201 : decode cL_law 201 = .ok (.iconst 2, 1) := by decide +kernel
theorem dL_law_202 : decode cL_law 202 = .ok (.iadd, 1) := by decide +kernel
theorem dL_law_203 : decode cL_law 203 = .ok (.iaload, 1) := by decide +kernel
theorem dL_law_204 : decode cL_law 204 = .ok (.invokevirtual 27, 3) := by decide +kernel
theorem dL_law_207 : decode cL_law 207 = .ok (.aload_n 2, 1) := by decide +kernel
theorem dL_law_208 : decode cL_law 208 = .ok (.aload_n 0, 1) := by decide +kernel
theorem dL_law_209 : decode cL_law 209 = .ok (.iload_n 3, 1) := by decide +kernel
theorem dL_law_210 : decode cL_law 210 = .ok (.iconst 1, 1) := by decide +kernel
theorem dL_law_211 : decode cL_law 211 = .ok (.iadd, 1) := by decide +kernel
theorem dL_law_212 : decode cL_law 212 = .ok (.iaload, 1) := by decide +kernel
theorem dL_law_213 : decode cL_law 213 = .ok (.aload_n 0, 1) := by decide +kernel
theorem dL_law_214 : decode cL_law 214 = .ok (.iload_n 3, 1) := by decide +kernel
theorem dL_law_215 : decode cL_law 215 = .ok (.iconst 2, 1) := by decide +kernel
theorem dL_law_216 : decode cL_law 216 = .ok (.iadd, 1) := by decide +kernel
theorem dL_law_217 : decode cL_law 217 = .ok (.iaload, 1) := by decide +kernel
theorem dL_law_218 : decode cL_law 218 = .ok (.invokevirtual 31, 3) := by decide +kernel
theorem dL_law_221 : decode cL_law 221 = .ok (.if_icmp .eq 557, 3) := by decide +kernel
theorem dL_law_224 : decode cL_law 224 = .ok (.iconst 0, 1) := by decide +kernel
theorem dL_law_225 : decode cL_law 225 = .ok (.ireturn, 1) := by decide +kernel
theorem dL_law_226 : decode cL_law 226 = .ok (.aload_n 1, 1) := by decide +kernel
theorem dL_law_227 : decode cL_law 227 = .ok (.aload_n 0, 1) := by decide +kernel
theorem dL_law_228 : decode cL_law 228 = .ok (.iload_n 3, 1) := by decide +kernel
theorem dL_law_229 : decode cL_law 229 = .ok (.iconst 1, 1) := by decide +kernel
theorem dL_law_230 : decode cL_law 230 = .ok (.iadd, 1) := by decide +kernel
theorem dL_law_231 : decode cL_law 231 = .ok (.iaload, 1) := by decide +kernel
theorem dL_law_232 : decode cL_law 232 = .ok (.aload_n 0, 1) := by decide +kernel
theorem dL_law_233 : decode cL_law 233 = .ok (.iload_n 3, 1) := by decide +kernel
theorem dL_law_234 : decode cL_law 234 = .ok (.iconst 2, 1) := by decide +kernel
theorem dL_law_235 : decode cL_law 235 = .ok (.iadd, 1) := by decide +kernel
theorem dL_law_236 : decode cL_law 236 = .ok (.iaload, 1) := by decide +kernel
theorem dL_law_237 : decode cL_law 237 = .ok (.invokevirtual 32, 3) := by decide +kernel
theorem dL_law_240 : decode cL_law 240 = .ok (.aload_n 2, 1) := by decide +kernel
theorem dL_law_241 : decode cL_law 241 = .ok (.aload_n 0, 1) := by decide +kernel
theorem dL_law_242 : decode cL_law 242 = .ok (.iload_n 3, 1) := by decide +kernel
theorem dL_law_243 : decode cL_law 243 = .ok (.iconst 1, 1) := by decide +kernel
theorem dL_law_244 : decode cL_law 244 = .ok (.iadd, 1) := by decide +kernel
theorem dL_law_245 : decode cL_law 245 = .ok (.iaload, 1) := by decide +kernel
theorem dL_law_246 : decode cL_law 246 = .ok (.aload_n 0, 1) := by decide +kernel
theorem dL_law_247 : decode cL_law 247 = .ok (.iload_n 3, 1) := by decide +kernel
theorem dL_law_248 : decode cL_law 248 = .ok (.iconst 2, 1) := by decide +kernel
theorem dL_law_249 : decode cL_law 249 = .ok (.iadd, 1) := by decide +kernel
theorem dL_law_250 : decode cL_law 250 = .ok (.iaload, 1) := by decide +kernel
theorem dL_law_251 : decode cL_law 251 = .ok (.invokevirtual 35, 3) := by decide +kernel
theorem dL_law_254 : decode cL_law 254 = .ok (.if_icmp .eq 524, 3) := by decide +kernel
theorem dL_law_257 : decode cL_law 257 = .ok (.iconst 0, 1) := by decide +kernel
theorem dL_law_258 : decode cL_law 258 = .ok (.ireturn, 1) := by decide +kernel
theorem dL_law_259 : decode cL_law 259 = .ok (.aload_n 1, 1) := by decide +kernel
theorem dL_law_260 : decode cL_law 260 = .ok (.aload_n 0, 1) := by decide +kernel
theorem dL_law_261 : decode cL_law 261 = .ok (.iload_n 3, 1) := by decide +kernel
theorem dL_law_262 : decode cL_law 262 = .ok (.iconst 1, 1) := by decide +kernel
theorem dL_law_263 : decode cL_law 263 = .ok (.iadd, 1) := by decide +kernel
theorem dL_law_264 : decode cL_law 264 = .ok (.iaload, 1) := by decide +kernel
theorem dL_law_265 : decode cL_law 265 = .ok (.invokevirtual 36, 3) := by decide +kernel
theorem dL_law_268 : decode cL_law 268 = .ok (.aload_n 2, 1) := by decide +kernel
theorem dL_law_269 : decode cL_law 269 = .ok (.aload_n 0, 1) := by decide +kernel
theorem dL_law_270 : decode cL_law 270 = .ok (.iload_n 3, 1) := by decide +kernel
theorem dL_law_271 : decode cL_law 271 = .ok (.iconst 1, 1) := by decide +kernel
theorem dL_law_272 : decode cL_law 272 = .ok (.iadd, 1) := by decide +kernel
theorem dL_law_273 : decode cL_law 273 = .ok (.iaload, 1) := by decide +kernel
theorem dL_law_274 : decode cL_law 274 = .ok (.invokevirtual 39, 3) := by decide +kernel
theorem dL_law_277 : decode cL_law 277 = .ok (.if_icmp .eq 501, 3) := by decide +kernel
theorem dL_law_280 : decode cL_law 280 = .ok (.iconst 0, 1) := by decide +kernel
theorem dL_law_281 : decode cL_law 281 = .ok (.ireturn, 1) := by decide +kernel
theorem dL_law_282 : decode cL_law 282 = .ok (.aload_n 1, 1) := by decide +kernel
theorem dL_law_283 : decode cL_law 283 = .ok (.aload_n 0, 1) := by decide +kernel
theorem dL_law_284 : decode cL_law 284 = .ok (.iload_n 3, 1) := by decide +kernel
theorem dL_law_285 : decode cL_law 285 = .ok (.iconst 1, 1) := by decide +kernel
theorem dL_law_286 : decode cL_law 286 = .ok (.iadd, 1) := by decide +kernel
theorem dL_law_287 : decode cL_law 287 = .ok (.iaload, 1) := by decide +kernel
theorem dL_law_288 : decode cL_law 288 = .ok (.invokevirtual 40, 3) := by decide +kernel
theorem dL_law_291 : decode cL_law 291 = .ok (.aload_n 2, 1) := by decide +kernel
theorem dL_law_292 : decode cL_law 292 = .ok (.aload_n 0, 1) := by decide +kernel
theorem dL_law_293 : decode cL_law 293 = .ok (.iload_n 3, 1) := by decide +kernel
theorem dL_law_294 : decode cL_law 294 = .ok (.iconst 1, 1) := by decide +kernel
theorem dL_law_295 : decode cL_law 295 = .ok (.iadd, 1) := by decide +kernel
theorem dL_law_296 : decode cL_law 296 = .ok (.iaload, 1) := by decide +kernel
theorem dL_law_297 : decode cL_law 297 = .ok (.invokevirtual 43, 3) := by decide +kernel
theorem dL_law_300 : decode cL_law 300 = .ok (.if_icmp .eq 478, 3) := by decide +kernel
theorem dL_law_303 : decode cL_law 303 = .ok (.iconst 0, 1) := by decide +kernel
theorem dL_law_304 : decode cL_law 304 = .ok (.ireturn, 1) := by decide +kernel
theorem dL_law_305 : decode cL_law 305 = .ok (.aload_n 1, 1) := by decide +kernel
theorem dL_law_306 : decode cL_law 306 = .ok (.invokevirtual 44, 3) := by decide +kernel
theorem dL_law_309 : decode cL_law 309 = .ok (.aload_n 2, 1) := by decide +kernel
theorem dL_law_310 : decode cL_law 310 = .ok (.invokevirtual 47, 3) := by decide +kernel
theorem dL_law_313 : decode cL_law 313 = .ok (.if_icmp .eq 465, 3) := by decide +kernel
theorem dL_law_316 : decode cL_law 316 = .ok (.iconst 0, 1) := by decide +kernel
theorem dL_law_317 : decode cL_law 317 = .ok (.ireturn, 1) := by decide +kernel
theorem dL_law_318 : decode cL_law 318 = .ok (.aload_n 1, 1) := by decide +kernel
theorem dL_law_319 : decode cL_law 319 = .ok (.aload_n 0, 1) := by decide +kernel
theorem dL_law_320 : decode cL_law 320 = .ok (.iload_n 3, 1) := by decide +kernel
theorem dL_law_321 : decode cL_law 321 = .ok (.iconst 1, 1) := by decide +kernel
theorem dL_law_322 : decode cL_law 322 = .ok (.iadd, 1) := by decide +kernel
theorem dL_law_323 : decode cL_law 323 = .ok (.iaload, 1) := by decide +kernel
theorem dL_law_324 : decode cL_law 324 = .ok (.aload_n 0, 1) := by decide +kernel
theorem dL_law_325 : decode cL_law 325 = .ok (.iload_n 3, 1) := by decide +kernel
theorem dL_law_326 : decode cL_law 326 = .ok (.iconst 2, 1) := by decide +kernel
theorem dL_law_327 : decode cL_law 327 = .ok (.iadd, 1) := by decide +kernel
theorem dL_law_328 : decode cL_law 328 = .ok (.iaload, 1) := by decide +kernel
theorem dL_law_329 : decode cL_law 329 = .ok (.invokevirtual 48, 3) := by decide +kernel
theorem dL_law_332 : decode cL_law 332 = .ok (.aload_n 2, 1) := by decide +kernel
theorem dL_law_333 : decode cL_law 333 = .ok (.aload_n 0, 1) := by decide +kernel
theorem dL_law_334 : decode cL_law 334 = .ok (.iload_n 3, 1) := by decide +kernel
theorem dL_law_335 : decode cL_law 335 = .ok (.iconst 1, 1) := by decide +kernel
theorem dL_law_336 : decode cL_law 336 = .ok (.iadd, 1) := by decide +kernel
theorem dL_law_337 : decode cL_law 337 = .ok (.iaload, 1) := by decide +kernel
theorem dL_law_338 : decode cL_law 338 = .ok (.aload_n 0, 1) := by decide +kernel
theorem dL_law_339 : decode cL_law 339 = .ok (.iload_n 3, 1) := by decide +kernel
theorem dL_law_340 : decode cL_law 340 = .ok (.iconst 2, 1) := by decide +kernel
theorem dL_law_341 : decode cL_law 341 = .ok (.iadd, 1) := by decide +kernel
theorem dL_law_342 : decode cL_law 342 = .ok (.iaload, 1) := by decide +kernel
theorem dL_law_343 : decode cL_law 343 = .ok (.invokevirtual 51, 3) := by decide +kernel
theorem dL_law_346 : decode cL_law 346 = .ok (.if_icmp .eq 432, 3) := by decide +kernel
theorem dL_law_349 : decode cL_law 349 = .ok (.iconst 0, 1) := by decide +kernel
theorem dL_law_350 : decode cL_law 350 = .ok (.ireturn, 1) := by decide +kernel
theorem dL_law_351 : decode cL_law 351 = .ok (.aload_n 1, 1) := by decide +kernel
theorem dL_law_352 : decode cL_law 352 = .ok (.invokevirtual 52, 3) := by decide +kernel
theorem dL_law_355 : decode cL_law 355 = .ok (.aload_n 2, 1) := by decide +kernel
theorem dL_law_356 : decode cL_law 356 = .ok (.invokevirtual 55, 3) := by decide +kernel
theorem dL_law_359 : decode cL_law 359 = .ok (.if_icmp .eq 419, 3) := by decide +kernel
theorem dL_law_362 : decode cL_law 362 = .ok (.iconst 0, 1) := by decide +kernel
theorem dL_law_363 : decode cL_law 363 = .ok (.ireturn, 1) := by decide +kernel
theorem dL_law_364 : decode cL_law 364 = .ok (.aload_n 1, 1) := by decide +kernel
theorem dL_law_365 : decode cL_law 365 = .ok (.aload_n 0, 1) := by decide +kernel
theorem dL_law_366 : decode cL_law 366 = .ok (.iload_n 3, 1) := by decide +kernel
theorem dL_law_367 : decode cL_law 367 = .ok (.iconst 1, 1) := by decide +kernel
theorem dL_law_368 : decode cL_law 368 = .ok (.iadd, 1) := by decide +kernel
theorem dL_law_369 : decode cL_law 369 = .ok (.iaload, 1) := by decide +kernel
theorem dL_law_370 : decode cL_law 370 = .ok (.invokevirtual 56, 3) := by decide +kernel
theorem dL_law_373 : decode cL_law 373 = .ok (.aload_n 2, 1) := by decide +kernel
theorem dL_law_374 : decode cL_law 374 = .ok (.aload_n 0, 1) := by decide +kernel
theorem dL_law_375 : decode cL_law 375 = .ok (.iload_n 3, 1) := by decide +kernel
theorem dL_law_376 : decode cL_law 376 = .ok (.iconst 1, 1) := by decide +kernel
theorem dL_law_377 : decode cL_law 377 = .ok (.iadd, 1) := by decide +kernel
theorem dL_law_378 : decode cL_law 378 = .ok (.iaload, 1) := by decide +kernel
theorem dL_law_379 : decode cL_law 379 = .ok (.invokevirtual 59, 3) := by decide +kernel
theorem dL_law_382 : decode cL_law 382 = .ok (.if_icmp .eq 396, 3) := by decide +kernel
theorem dL_law_385 : decode cL_law 385 = .ok (.iconst 0, 1) := by decide +kernel
theorem dL_law_386 : decode cL_law 386 = .ok (.ireturn, 1) := by decide +kernel
theorem dL_law_387 : decode cL_law 387 = .ok (.aload_n 1, 1) := by decide +kernel
theorem dL_law_388 : decode cL_law 388 = .ok (.aload_n 0, 1) := by decide +kernel
theorem dL_law_389 : decode cL_law 389 = .ok (.iload_n 3, 1) := by decide +kernel
theorem dL_law_390 : decode cL_law 390 = .ok (.iconst 1, 1) := by decide +kernel
theorem dL_law_391 : decode cL_law 391 = .ok (.iadd, 1) := by decide +kernel
theorem dL_law_392 : decode cL_law 392 = .ok (.iaload, 1) := by decide +kernel
theorem dL_law_393 : decode cL_law 393 = .ok (.aload_n 0, 1) := by decide +kernel
theorem dL_law_394 : decode cL_law 394 = .ok (.iload_n 3, 1) := by decide +kernel
theorem dL_law_395 : decode cL_law 395 = .ok (.iconst 2, 1) := by decide +kernel
theorem dL_law_396 : decode cL_law 396 = .ok (.iadd, 1) := by decide +kernel
theorem dL_law_397 : decode cL_law 397 = .ok (.iaload, 1) := by decide +kernel
theorem dL_law_398 : decode cL_law 398 = .ok (.invokevirtual 60, 3) := by decide +kernel
theorem dL_law_401 : decode cL_law 401 = .ok (.aload_n 2, 1) := by decide +kernel
theorem dL_law_402 : decode cL_law 402 = .ok (.aload_n 0, 1) := by decide +kernel
theorem dL_law_403 : decode cL_law 403 = .ok (.iload_n 3, 1) := by decide +kernel
theorem dL_law_404 : decode cL_law 404 = .ok (.iconst 1, 1) := by decide +kernel
theorem dL_law_405 : decode cL_law 405 = .ok (.iadd, 1) := by decide +kernel
theorem dL_law_406 : decode cL_law 406 = .ok (.iaload, 1) := by decide +kernel
theorem dL_law_407 : decode cL_law 407 = .ok (.aload_n 0, 1) := by decide +kernel
theorem dL_law_408 : decode cL_law 408 = .ok (.iload_n 3, 1) := by decide +kernel
theorem dL_law_409 : decode cL_law 409 = .ok (.iconst 2, 1) := by decide +kernel
theorem dL_law_410 : decode cL_law 410 = .ok (.iadd, 1) := by decide +kernel
theorem dL_law_411 : decode cL_law 411 = .ok (.iaload, 1) := by decide +kernel
theorem dL_law_412 : decode cL_law 412 = .ok (.invokevirtual 63, 3) := by decide +kernel
theorem dL_law_415 : decode cL_law 415 = .ok (.if_icmp .eq 363, 3) := by decide +kernel
theorem dL_law_418 : decode cL_law 418 = .ok (.iconst 0, 1) := by decide +kernel
theorem dL_law_419 : decode cL_law 419 = .ok (.ireturn, 1) := by decide +kernel
theorem dL_law_420 : decode cL_law 420 = .ok (.aload_n 1, 1) := by decide +kernel
theorem dL_law_421 : decode cL_law 421 = .ok (.aload_n 0, 1) := by decide +kernel
theorem dL_law_422 : decode cL_law 422 = .ok (.iload_n 3, 1) := by decide +kernel
theorem dL_law_423 : decode cL_law 423 = .ok (.iconst 1, 1) := by decide +kernel
theorem dL_law_424 : decode cL_law 424 = .ok (.iadd, 1) := by decide +kernel
theorem dL_law_425 : decode cL_law 425 = .ok (.iaload, 1) := by decide +kernel
theorem dL_law_426 : decode cL_law 426 = .ok (.aload_n 0, 1) := by decide +kernel
theorem dL_law_427 : decode cL_law 427 = .ok (.iload_n 3, 1) := by decide +kernel
theorem dL_law_428 : decode cL_law 428 = .ok (.iconst 2, 1) := by decide +kernel
theorem dL_law_429 : decode cL_law 429 = .ok (.iadd, 1) := by decide +kernel
theorem dL_law_430 : decode cL_law 430 = .ok (.iaload, 1) := by decide +kernel
theorem dL_law_431 : decode cL_law 431 = .ok (.invokevirtual 64, 3) := by decide +kernel
theorem dL_law_434 : decode cL_law 434 = .ok (.aload_n 2, 1) := by decide +kernel
theorem dL_law_435 : decode cL_law 435 = .ok (.aload_n 0, 1) := by decide +kernel
theorem dL_law_436 : decode cL_law 436 = .ok (.iload_n 3, 1) := by decide +kernel
theorem dL_law_437 : decode cL_law 437 = .ok (.iconst 1, 1) := by decide +kernel
theorem dL_law_438 : decode cL_law 438 = .ok (.iadd, 1) := by decide +kernel
theorem dL_law_439 : decode cL_law 439 = .ok (.iaload, 1) := by decide +kernel
theorem dL_law_440 : decode cL_law 440 = .ok (.aload_n 0, 1) := by decide +kernel
theorem dL_law_441 : decode cL_law 441 = .ok (.iload_n 3, 1) := by decide +kernel
theorem dL_law_442 : decode cL_law 442 = .ok (.iconst 2, 1) := by decide +kernel
theorem dL_law_443 : decode cL_law 443 = .ok (.iadd, 1) := by decide +kernel
theorem dL_law_444 : decode cL_law 444 = .ok (.iaload, 1) := by decide +kernel
theorem dL_law_445 : decode cL_law 445 = .ok (.invokevirtual 67, 3) := by decide +kernel
theorem dL_law_448 : decode cL_law 448 = .ok (.if_icmp .eq 330, 3) := by decide +kernel
theorem dL_law_451 : decode cL_law 451 = .ok (.iconst 0, 1) := by decide +kernel
theorem dL_law_452 : decode cL_law 452 = .ok (.ireturn, 1) := by decide +kernel
theorem dL_law_453 : decode cL_law 453 = .ok (.aload_n 1, 1) := by decide +kernel
theorem dL_law_454 : decode cL_law 454 = .ok (.aload_n 0, 1) := by decide +kernel
theorem dL_law_455 : decode cL_law 455 = .ok (.iload_n 3, 1) := by decide +kernel
theorem dL_law_456 : decode cL_law 456 = .ok (.iconst 1, 1) := by decide +kernel
theorem dL_law_457 : decode cL_law 457 = .ok (.iadd, 1) := by decide +kernel
theorem dL_law_458 : decode cL_law 458 = .ok (.iaload, 1) := by decide +kernel
theorem dL_law_459 : decode cL_law 459 = .ok (.aload_n 0, 1) := by decide +kernel
theorem dL_law_460 : decode cL_law 460 = .ok (.iload_n 3, 1) := by decide +kernel
theorem dL_law_461 : decode cL_law 461 = .ok (.iconst 2, 1) := by decide +kernel
theorem dL_law_462 : decode cL_law 462 = .ok (.iadd, 1) := by decide +kernel
theorem dL_law_463 : decode cL_law 463 = .ok (.iaload, 1) := by decide +kernel
theorem dL_law_464 : decode cL_law 464 = .ok (.invokevirtual 68, 3) := by decide +kernel
theorem dL_law_467 : decode cL_law 467 = .ok (.aload_n 2, 1) := by decide +kernel
theorem dL_law_468 : decode cL_law 468 = .ok (.aload_n 0, 1) := by decide +kernel
theorem dL_law_469 : decode cL_law 469 = .ok (.iload_n 3, 1) := by decide +kernel
theorem dL_law_470 : decode cL_law 470 = .ok (.iconst 1, 1) := by decide +kernel
theorem dL_law_471 : decode cL_law 471 = .ok (.iadd, 1) := by decide +kernel
theorem dL_law_472 : decode cL_law 472 = .ok (.iaload, 1) := by decide +kernel
theorem dL_law_473 : decode cL_law 473 = .ok (.aload_n 0, 1) := by decide +kernel
theorem dL_law_474 : decode cL_law 474 = .ok (.iload_n 3, 1) := by decide +kernel
theorem dL_law_475 : decode cL_law 475 = .ok (.iconst 2, 1) := by decide +kernel
theorem dL_law_476 : decode cL_law 476 = .ok (.iadd, 1) := by decide +kernel
theorem dL_law_477 : decode cL_law 477 = .ok (.iaload, 1) := by decide +kernel
theorem dL_law_478 : decode cL_law 478 = .ok (.invokevirtual 71, 3) := by decide +kernel
theorem dL_law_481 : decode cL_law 481 = .ok (.if_icmp .eq 297, 3) := by decide +kernel
theorem dL_law_484 : decode cL_law 484 = .ok (.iconst 0, 1) := by decide +kernel
theorem dL_law_485 : decode cL_law 485 = .ok (.ireturn, 1) := by decide +kernel
theorem dL_law_486 : decode cL_law 486 = .ok (.aload_n 1, 1) := by decide +kernel
theorem dL_law_487 : decode cL_law 487 = .ok (.aload_n 0, 1) := by decide +kernel
theorem dL_law_488 : decode cL_law 488 = .ok (.iload_n 3, 1) := by decide +kernel
theorem dL_law_489 : decode cL_law 489 = .ok (.iconst 1, 1) := by decide +kernel
theorem dL_law_490 : decode cL_law 490 = .ok (.iadd, 1) := by decide +kernel
theorem dL_law_491 : decode cL_law 491 = .ok (.iaload, 1) := by decide +kernel
theorem dL_law_492 : decode cL_law 492 = .ok (.aload_n 0, 1) := by decide +kernel
theorem dL_law_493 : decode cL_law 493 = .ok (.iload_n 3, 1) := by decide +kernel
theorem dL_law_494 : decode cL_law 494 = .ok (.iconst 2, 1) := by decide +kernel
theorem dL_law_495 : decode cL_law 495 = .ok (.iadd, 1) := by decide +kernel
theorem dL_law_496 : decode cL_law 496 = .ok (.iaload, 1) := by decide +kernel
theorem dL_law_497 : decode cL_law 497 = .ok (.aload_n 0, 1) := by decide +kernel
theorem dL_law_498 : decode cL_law 498 = .ok (.iload_n 3, 1) := by decide +kernel
theorem dL_law_499 : decode cL_law 499 = .ok (.iconst 3, 1) := by decide +kernel
theorem dL_law_500 : decode cL_law 500 = .ok (.iadd, 1) := by decide +kernel
theorem dL_law_501 : decode cL_law 501 = .ok (.iaload, 1) := by decide +kernel
theorem dL_law_502 : decode cL_law 502 = .ok (.aload_n 0, 1) := by decide +kernel
theorem dL_law_503 : decode cL_law 503 = .ok (.iload_n 3, 1) := by decide +kernel
theorem dL_law_504 : decode cL_law 504 = .ok (.iconst 4, 1) := by decide +kernel
theorem dL_law_505 : decode cL_law 505 = .ok (.iadd, 1) := by decide +kernel
theorem dL_law_506 : decode cL_law 506 = .ok (.iaload, 1) := by decide +kernel
theorem dL_law_507 : decode cL_law 507 = .ok (.invokevirtual 72, 3) := by decide +kernel
theorem dL_law_510 : decode cL_law 510 = .ok (.aload_n 2, 1) := by decide +kernel
theorem dL_law_511 : decode cL_law 511 = .ok (.aload_n 0, 1) := by decide +kernel
theorem dL_law_512 : decode cL_law 512 = .ok (.iload_n 3, 1) := by decide +kernel
theorem dL_law_513 : decode cL_law 513 = .ok (.iconst 1, 1) := by decide +kernel
theorem dL_law_514 : decode cL_law 514 = .ok (.iadd, 1) := by decide +kernel
theorem dL_law_515 : decode cL_law 515 = .ok (.iaload, 1) := by decide +kernel
theorem dL_law_516 : decode cL_law 516 = .ok (.aload_n 0, 1) := by decide +kernel
theorem dL_law_517 : decode cL_law 517 = .ok (.iload_n 3, 1) := by decide +kernel
theorem dL_law_518 : decode cL_law 518 = .ok (.iconst 2, 1) := by decide +kernel
theorem dL_law_519 : decode cL_law 519 = .ok (.iadd, 1) := by decide +kernel
theorem dL_law_520 : decode cL_law 520 = .ok (.iaload, 1) := by decide +kernel
theorem dL_law_521 : decode cL_law 521 = .ok (.aload_n 0, 1) := by decide +kernel
theorem dL_law_522 : decode cL_law 522 = .ok (.iload_n 3, 1) := by decide +kernel
theorem dL_law_523 : decode cL_law 523 = .ok (.iconst 3, 1) := by decide +kernel
theorem dL_law_524 : decode cL_law 524 = .ok (.iadd, 1) := by decide +kernel
theorem dL_law_525 : decode cL_law 525 = .ok (.iaload, 1) := by decide +kernel
theorem dL_law_526 : decode cL_law 526 = .ok (.aload_n 0, 1) := by decide +kernel
theorem dL_law_527 : decode cL_law 527 = .ok (.iload_n 3, 1) := by decide +kernel
theorem dL_law_528 : decode cL_law 528 = .ok (.iconst 4, 1) := by decide +kernel
theorem dL_law_529 : decode cL_law 529 = .ok (.iadd, 1) := by decide +kernel
theorem dL_law_530 : decode cL_law 530 = .ok (.iaload, 1) := by decide +kernel
theorem dL_law_531 : decode cL_law 531 = .ok (.invokevirtual 76, 3) := by decide +kernel
theorem dL_law_534 : decode cL_law 534 = .ok (.if_icmp .eq 244, 3) := by decide +kernel
theorem dL_law_537 : decode cL_law 537 = .ok (.iconst 0, 1) := by decide +kernel
theorem dL_law_538 : decode cL_law 538 = .ok (.ireturn, 1) := by decide +kernel
theorem dL_law_539 : decode cL_law 539 = .ok (.aload_n 1, 1) := by decide +kernel
theorem dL_law_540 : decode cL_law 540 = .ok (.invokevirtual 77, 3) := by decide +kernel
theorem dL_law_543 : decode cL_law 543 = .ok (.aload_n 2, 1) := by decide +kernel
theorem dL_law_544 : decode cL_law 544 = .ok (.invokevirtual 80, 3) := by decide +kernel
theorem dL_law_547 : decode cL_law 547 = .ok (.if_icmp .eq 231, 3) := by decide +kernel
theorem dL_law_550 : decode cL_law 550 = .ok (.iconst 0, 1) := by decide +kernel
theorem dL_law_551 : decode cL_law 551 = .ok (.ireturn, 1) := by decide +kernel
theorem dL_law_552 : decode cL_law 552 = .ok (.aload_n 1, 1) := by decide +kernel
theorem dL_law_553 : decode cL_law 553 = .ok (.aload_n 0, 1) := by decide +kernel
theorem dL_law_554 : decode cL_law 554 = .ok (.iload_n 3, 1) := by decide +kernel
theorem dL_law_555 : decode cL_law 555 = .ok (.iconst 1, 1) := by decide +kernel
theorem dL_law_556 : decode cL_law 556 = .ok (.iadd, 1) := by decide +kernel
theorem dL_law_557 : decode cL_law 557 = .ok (.iaload, 1) := by decide +kernel
theorem dL_law_558 : decode cL_law 558 = .ok (.aload_n 0, 1) := by decide +kernel
theorem dL_law_559 : decode cL_law 559 = .ok (.iload_n 3, 1) := by decide +kernel
theorem dL_law_560 : decode cL_law 560 = .ok (.iconst 2, 1) := by decide +kernel
theorem dL_law_561 : decode cL_law 561 = .ok (.iadd, 1) := by decide +kernel
theorem dL_law_562 : decode cL_law 562 = .ok (.iaload, 1) := by decide +kernel
theorem dL_law_563 : decode cL_law 563 = .ok (.invokevirtual 81, 3) := by decide +kernel
theorem dL_law_566 : decode cL_law 566 = .ok (.aload_n 2, 1) := by decide +kernel
theorem dL_law_567 : decode cL_law 567 = .ok (.aload_n 0, 1) := by decide +kernel
theorem dL_law_568 : decode cL_law 568 = .ok (.iload_n 3, 1) := by decide +kernel
theorem dL_law_569 : decode cL_law 569 = .ok (.iconst 1, 1) := by decide +kernel
theorem dL_law_570 : decode cL_law 570 = .ok (.iadd, 1) := by decide +kernel
theorem dL_law_571 : decode cL_law 571 = .ok (.iaload, 1) := by decide +kernel
theorem dL_law_572 : decode cL_law 572 = .ok (.aload_n 0, 1) := by decide +kernel
theorem dL_law_573 : decode cL_law 573 = .ok (.iload_n 3, 1) := by decide +kernel
theorem dL_law_574 : decode cL_law 574 = .ok (.iconst 2, 1) := by decide +kernel
theorem dL_law_575 : decode cL_law 575 = .ok (.iadd, 1) := by decide +kernel
theorem dL_law_576 : decode cL_law 576 = .ok (.iaload, 1) := by decide +kernel
theorem dL_law_577 : decode cL_law 577 = .ok (.invokevirtual 84, 3) := by decide +kernel
theorem dL_law_580 : decode cL_law 580 = .ok (.if_icmp .eq 198, 3) := by decide +kernel
theorem dL_law_583 : decode cL_law 583 = .ok (.iconst 0, 1) := by decide +kernel
theorem dL_law_584 : decode cL_law 584 = .ok (.ireturn, 1) := by decide +kernel
theorem dL_law_585 : decode cL_law 585 = .ok (.aload_n 1, 1) := by decide +kernel
theorem dL_law_586 : decode cL_law 586 = .ok (.invokevirtual 85, 3) := by decide +kernel
theorem dL_law_589 : decode cL_law 589 = .ok (.aload_n 2, 1) := by decide +kernel
theorem dL_law_590 : decode cL_law 590 = .ok (.invokevirtual 88, 3) := by decide +kernel
theorem dL_law_593 : decode cL_law 593 = .ok (.if_icmp .eq 185, 3) := by decide +kernel
theorem dL_law_596 : decode cL_law 596 = .ok (.iconst 0, 1) := by decide +kernel
theorem dL_law_597 : decode cL_law 597 = .ok (.ireturn, 1) := by decide +kernel
theorem dL_law_598 : decode cL_law 598 = .ok (.aload_n 1, 1) := by decide +kernel
theorem dL_law_599 : decode cL_law 599 = .ok (.aload_n 0, 1) := by decide +kernel
theorem dL_law_600 : decode cL_law 600 = .ok (.iload_n 3, 1) := by decide +kernel
theorem dL_law_601 : decode cL_law 601 = .ok (.iconst 1, 1) := by decide +kernel
theorem dL_law_602 : decode cL_law 602 = .ok (.iadd, 1) := by decide +kernel
theorem dL_law_603 : decode cL_law 603 = .ok (.iaload, 1) := by decide +kernel
theorem dL_law_604 : decode cL_law 604 = .ok (.aload_n 0, 1) := by decide +kernel
theorem dL_law_605 : decode cL_law 605 = .ok (.iload_n 3, 1) := by decide +kernel
theorem dL_law_606 : decode cL_law 606 = .ok (.iconst 2, 1) := by decide +kernel
theorem dL_law_607 : decode cL_law 607 = .ok (.iadd, 1) := by decide +kernel
theorem dL_law_608 : decode cL_law 608 = .ok (.iaload, 1) := by decide +kernel
theorem dL_law_609 : decode cL_law 609 = .ok (.aload_n 0, 1) := by decide +kernel
theorem dL_law_610 : decode cL_law 610 = .ok (.iload_n 3, 1) := by decide +kernel
theorem dL_law_611 : decode cL_law 611 = .ok (.iconst 3, 1) := by decide +kernel
theorem dL_law_612 : decode cL_law 612 = .ok (.iadd, 1) := by decide +kernel
theorem dL_law_613 : decode cL_law 613 = .ok (.iaload, 1) := by decide +kernel
theorem dL_law_614 : decode cL_law 614 = .ok (.aload_n 0, 1) := by decide +kernel
theorem dL_law_615 : decode cL_law 615 = .ok (.iload_n 3, 1) := by decide +kernel
theorem dL_law_616 : decode cL_law 616 = .ok (.iconst 4, 1) := by decide +kernel
theorem dL_law_617 : decode cL_law 617 = .ok (.iadd, 1) := by decide +kernel
theorem dL_law_618 : decode cL_law 618 = .ok (.iaload, 1) := by decide +kernel
theorem dL_law_619 : decode cL_law 619 = .ok (.aload_n 0, 1) := by decide +kernel
theorem dL_law_620 : decode cL_law 620 = .ok (.iload_n 3, 1) := by decide +kernel
theorem dL_law_621 : decode cL_law 621 = .ok (.iconst 5, 1) := by decide +kernel
theorem dL_law_622 : decode cL_law 622 = .ok (.iadd, 1) := by decide +kernel
theorem dL_law_623 : decode cL_law 623 = .ok (.iaload, 1) := by decide +kernel
theorem dL_law_624 : decode cL_law 624 = .ok (.invokevirtual 89, 3) := by decide +kernel
theorem dL_law_627 : decode cL_law 627 = .ok (.aload_n 2, 1) := by decide +kernel
theorem dL_law_628 : decode cL_law 628 = .ok (.aload_n 0, 1) := by decide +kernel
theorem dL_law_629 : decode cL_law 629 = .ok (.iload_n 3, 1) := by decide +kernel
theorem dL_law_630 : decode cL_law 630 = .ok (.iconst 1, 1) := by decide +kernel
theorem dL_law_631 : decode cL_law 631 = .ok (.iadd, 1) := by decide +kernel
theorem dL_law_632 : decode cL_law 632 = .ok (.iaload, 1) := by decide +kernel
theorem dL_law_633 : decode cL_law 633 = .ok (.aload_n 0, 1) := by decide +kernel
theorem dL_law_634 : decode cL_law 634 = .ok (.iload_n 3, 1) := by decide +kernel
theorem dL_law_635 : decode cL_law 635 = .ok (.iconst 2, 1) := by decide +kernel
theorem dL_law_636 : decode cL_law 636 = .ok (.iadd, 1) := by decide +kernel
theorem dL_law_637 : decode cL_law 637 = .ok (.iaload, 1) := by decide +kernel
theorem dL_law_638 : decode cL_law 638 = .ok (.aload_n 0, 1) := by decide +kernel
theorem dL_law_639 : decode cL_law 639 = .ok (.iload_n 3, 1) := by decide +kernel
theorem dL_law_640 : decode cL_law 640 = .ok (.iconst 3, 1) := by decide +kernel
theorem dL_law_641 : decode cL_law 641 = .ok (.iadd, 1) := by decide +kernel
theorem dL_law_642 : decode cL_law 642 = .ok (.iaload, 1) := by decide +kernel
theorem dL_law_643 : decode cL_law 643 = .ok (.aload_n 0, 1) := by decide +kernel
theorem dL_law_644 : decode cL_law 644 = .ok (.iload_n 3, 1) := by decide +kernel
theorem dL_law_645 : decode cL_law 645 = .ok (.iconst 4, 1) := by decide +kernel
theorem dL_law_646 : decode cL_law 646 = .ok (.iadd, 1) := by decide +kernel
theorem dL_law_647 : decode cL_law 647 = .ok (.iaload, 1) := by decide +kernel
theorem dL_law_648 : decode cL_law 648 = .ok (.aload_n 0, 1) := by decide +kernel
theorem dL_law_649 : decode cL_law 649 = .ok (.iload_n 3, 1) := by decide +kernel
theorem dL_law_650 : decode cL_law 650 = .ok (.iconst 5, 1) := by decide +kernel
theorem dL_law_651 : decode cL_law 651 = .ok (.iadd, 1) := by decide +kernel
theorem dL_law_652 : decode cL_law 652 = .ok (.iaload, 1) := by decide +kernel
theorem dL_law_653 : decode cL_law 653 = .ok (.invokevirtual 93, 3) := by decide +kernel
theorem dL_law_656 : decode cL_law 656 = .ok (.lcmp, 1) := by decide +kernel
theorem dL_law_657 : decode cL_law 657 = .ok (.ifCond .eq 121, 3) := by decide +kernel
theorem dL_law_660 : decode cL_law 660 = .ok (.iconst 0, 1) := by decide +kernel
theorem dL_law_661 : decode cL_law 661 = .ok (.ireturn, 1) := by decide +kernel
theorem dL_law_662 : decode cL_law 662 = .ok (.aload_n 1, 1) := by decide +kernel
theorem dL_law_663 : decode cL_law 663 = .ok (.aload_n 0, 1) := by decide +kernel
theorem dL_law_664 : decode cL_law 664 = .ok (.iload_n 3, 1) := by decide +kernel
theorem dL_law_665 : decode cL_law 665 = .ok (.iconst 1, 1) := by decide +kernel
theorem dL_law_666 : decode cL_law 666 = .ok (.iadd, 1) := by decide +kernel
theorem dL_law_667 : decode cL_law 667 = .ok (.iaload, 1) := by decide +kernel
theorem dL_law_668 : decode cL_law 668 = .ok (.aload_n 0, 1) := by decide +kernel
theorem dL_law_669 : decode cL_law 669 = .ok (.iload_n 3, 1) := by decide +kernel
theorem dL_law_670 : decode cL_law 670 = .ok (.iconst 2, 1) := by decide +kernel
theorem dL_law_671 : decode cL_law 671 = .ok (.iadd, 1) := by decide +kernel
theorem dL_law_672 : decode cL_law 672 = .ok (.iaload, 1) := by decide +kernel
theorem dL_law_673 : decode cL_law 673 = .ok (.invokevirtual 94, 3) := by decide +kernel
theorem dL_law_676 : decode cL_law 676 = .ok (.aload_n 2, 1) := by decide +kernel
theorem dL_law_677 : decode cL_law 677 = .ok (.aload_n 0, 1) := by decide +kernel
theorem dL_law_678 : decode cL_law 678 = .ok (.iload_n 3, 1) := by decide +kernel
theorem dL_law_679 : decode cL_law 679 = .ok (.iconst 1, 1) := by decide +kernel
theorem dL_law_680 : decode cL_law 680 = .ok (.iadd, 1) := by decide +kernel
theorem dL_law_681 : decode cL_law 681 = .ok (.iaload, 1) := by decide +kernel
theorem dL_law_682 : decode cL_law 682 = .ok (.aload_n 0, 1) := by decide +kernel
theorem dL_law_683 : decode cL_law 683 = .ok (.iload_n 3, 1) := by decide +kernel
theorem dL_law_684 : decode cL_law 684 = .ok (.iconst 2, 1) := by decide +kernel
theorem dL_law_685 : decode cL_law 685 = .ok (.iadd, 1) := by decide +kernel
theorem dL_law_686 : decode cL_law 686 = .ok (.iaload, 1) := by decide +kernel
theorem dL_law_687 : decode cL_law 687 = .ok (.invokevirtual 97, 3) := by decide +kernel
theorem dL_law_690 : decode cL_law 690 = .ok (.if_icmp .eq 88, 3) := by decide +kernel
theorem dL_law_693 : decode cL_law 693 = .ok (.iconst 0, 1) := by decide +kernel
theorem dL_law_694 : decode cL_law 694 = .ok (.ireturn, 1) := by decide +kernel
theorem dL_law_695 : decode cL_law 695 = .ok (.aload_n 1, 1) := by decide +kernel
theorem dL_law_696 : decode cL_law 696 = .ok (.aload_n 0, 1) := by decide +kernel
theorem dL_law_697 : decode cL_law 697 = .ok (.iload_n 3, 1) := by decide +kernel
theorem dL_law_698 : decode cL_law 698 = .ok (.iconst 1, 1) := by decide +kernel
theorem dL_law_699 : decode cL_law 699 = .ok (.iadd, 1) := by decide +kernel
theorem dL_law_700 : decode cL_law 700 = .ok (.iaload, 1) := by decide +kernel
theorem dL_law_701 : decode cL_law 701 = .ok (.invokevirtual 98, 3) := by decide +kernel
theorem dL_law_704 : decode cL_law 704 = .ok (.aload_n 2, 1) := by decide +kernel
theorem dL_law_705 : decode cL_law 705 = .ok (.aload_n 0, 1) := by decide +kernel
theorem dL_law_706 : decode cL_law 706 = .ok (.iload_n 3, 1) := by decide +kernel
theorem dL_law_707 : decode cL_law 707 = .ok (.iconst 1, 1) := by decide +kernel
theorem dL_law_708 : decode cL_law 708 = .ok (.iadd, 1) := by decide +kernel
theorem dL_law_709 : decode cL_law 709 = .ok (.iaload, 1) := by decide +kernel
theorem dL_law_710 : decode cL_law 710 = .ok (.invokevirtual 101, 3) := by decide +kernel
theorem dL_law_713 : decode cL_law 713 = .ok (.if_icmp .eq 65, 3) := by decide +kernel
theorem dL_law_716 : decode cL_law 716 = .ok (.iconst 0, 1) := by decide +kernel
theorem dL_law_717 : decode cL_law 717 = .ok (.ireturn, 1) := by decide +kernel
theorem dL_law_718 : decode cL_law 718 = .ok (.aload_n 1, 1) := by decide +kernel
theorem dL_law_719 : decode cL_law 719 = .ok (.aload_n 0, 1) := by decide +kernel
theorem dL_law_720 : decode cL_law 720 = .ok (.iload_n 3, 1) := by decide +kernel
theorem dL_law_721 : decode cL_law 721 = .ok (.iconst 1, 1) := by decide +kernel
theorem dL_law_722 : decode cL_law 722 = .ok (.iadd, 1) := by decide +kernel
theorem dL_law_723 : decode cL_law 723 = .ok (.iaload, 1) := by decide +kernel
theorem dL_law_724 : decode cL_law 724 = .ok (.invokevirtual 102, 3) := by decide +kernel
theorem dL_law_727 : decode cL_law 727 = .ok (.aload_n 2, 1) := by decide +kernel
theorem dL_law_728 : decode cL_law 728 = .ok (.aload_n 0, 1) := by decide +kernel
theorem dL_law_729 : decode cL_law 729 = .ok (.iload_n 3, 1) := by decide +kernel
theorem dL_law_730 : decode cL_law 730 = .ok (.iconst 1, 1) := by decide +kernel
theorem dL_law_731 : decode cL_law 731 = .ok (.iadd, 1) := by decide +kernel
theorem dL_law_732 : decode cL_law 732 = .ok (.iaload, 1) := by decide +kernel
theorem dL_law_733 : decode cL_law 733 = .ok (.invokevirtual 105, 3) := by decide +kernel
theorem dL_law_736 : decode cL_law 736 = .ok (.if_icmp .eq 42, 3) := by decide +kernel
theorem dL_law_739 : decode cL_law 739 = .ok (.iconst 0, 1) := by decide +kernel
theorem dL_law_740 : decode cL_law 740 = .ok (.ireturn, 1) := by decide +kernel
theorem dL_law_741 : decode cL_law 741 = .ok (.aload_n 1, 1) := by decide +kernel
theorem dL_law_742 : decode cL_law 742 = .ok (.aload_n 0, 1) := by decide +kernel
theorem dL_law_743 : decode cL_law 743 = .ok (.iload_n 3, 1) := by decide +kernel
theorem dL_law_744 : decode cL_law 744 = .ok (.iconst 1, 1) := by decide +kernel
theorem dL_law_745 : decode cL_law 745 = .ok (.iadd, 1) := by decide +kernel
theorem dL_law_746 : decode cL_law 746 = .ok (.iaload, 1) := by decide +kernel
theorem dL_law_747 : decode cL_law 747 = .ok (.invokevirtual 106, 3) := by decide +kernel
theorem dL_law_750 : decode cL_law 750 = .ok (.aload_n 2, 1) := by decide +kernel
theorem dL_law_751 : decode cL_law 751 = .ok (.aload_n 0, 1) := by decide +kernel
theorem dL_law_752 : decode cL_law 752 = .ok (.iload_n 3, 1) := by decide +kernel
theorem dL_law_753 : decode cL_law 753 = .ok (.iconst 1, 1) := by decide +kernel
theorem dL_law_754 : decode cL_law 754 = .ok (.iadd, 1) := by decide +kernel
theorem dL_law_755 : decode cL_law 755 = .ok (.iaload, 1) := by decide +kernel
theorem dL_law_756 : decode cL_law 756 = .ok (.invokevirtual 109, 3) := by decide +kernel
theorem dL_law_759 : decode cL_law 759 = .ok (.if_icmp .eq 19, 3) := by decide +kernel
theorem dL_law_762 : decode cL_law 762 = .ok (.iconst 0, 1) := by decide +kernel
theorem dL_law_763 : decode cL_law 763 = .ok (.ireturn, 1) := by decide +kernel
theorem dL_law_764 : decode cL_law 764 = .ok (.aload_n 1, 1) := by decide +kernel
theorem dL_law_765 : decode cL_law 765 = .ok (.invokevirtual 110, 3) := by decide +kernel
theorem dL_law_768 : decode cL_law 768 = .ok (.aload_n 2, 1) := by decide +kernel
theorem dL_law_769 : decode cL_law 769 = .ok (.invokevirtual 114, 3) := by decide +kernel
theorem dL_law_772 : decode cL_law 772 = .ok (.lcmp, 1) := by decide +kernel
theorem dL_law_773 : decode cL_law 773 = .ok (.ifCond .eq 5, 3) := by decide +kernel
theorem dL_law_776 : decode cL_law 776 = .ok (.iconst 0, 1) := by decide +kernel
theorem dL_law_777 : decode cL_law 777 = .ok (.ireturn, 1) := by decide +kernel
theorem dL_law_778 : decode cL_law 778 = .ok (.iinc 3 6, 3) := by decide +kernel
theorem dL_law_781 : decode cL_law 781 = .ok (.goto (-763), 3) := by decide +kernel
theorem dL_law_784 : decode cL_law 784 = .ok (.iconst 1, 1) := by decide +kernel
theorem dL_law_785 : decode cL_law 785 = .ok (.ireturn, 1) := by decide +kernel
end
section
/-! calls: the words of one -/
def CVw (own : String) (index : Nat) (C : String) (y : MethodName) (bytes : ByteArray) (maxL : Nat) (ret : Option FieldType) (n : Nat) : Prop :=
  (Cond.methodLink own index y ∈ lw_tbl ∧ Cond.instanceMethod y ∈ lw_tbl ∧ Cond.selects C y y ∈ lw_tbl ∧ Cond.initialized C ∈ lw_tbl ∧ Cond.code y bytes maxL ret ∈ lw_tbl) ∧ (y.cls = C ∧ y.cls ≠ "java/lang/invoke/MethodHandle" ∧ y.cls ≠ "java/lang/invoke/VarHandle" ∧ (parseMethodDescriptor y.desc).map (fun d => d.parameters.length) = some n)
def CSw (own : String) (index : Nat) (y : MethodName) (bytes : ByteArray) (maxL : Nat) (ret : Option FieldType) (n : Nat) : Prop :=
  (Cond.methodLink own index y ∈ lw_tbl ∧ Cond.static y ∈ lw_tbl ∧ Cond.initialized y.cls ∈ lw_tbl ∧ Cond.code y bytes maxL ret ∈ lw_tbl) ∧ (y.cls ≠ "java/lang/invoke/MethodHandle" ∧ y.cls ≠ "java/lang/invoke/VarHandle" ∧ (parseMethodDescriptor y.desc).map (fun d => d.parameters.length) = some n)
def CSn (own : String) (index : Nat) (host : String) (y : MethodName) (bytes : ByteArray) (maxL : Nat) (ret : Option FieldType) (n : Nat) : Prop :=
  (Cond.methodLinkNest own index y host ∈ lw_tbl ∧ Cond.static y ∈ lw_tbl ∧ Cond.initialized y.cls ∈ lw_tbl ∧ Cond.code y bytes maxL ret ∈ lw_tbl) ∧ (y.cls ≠ "java/lang/invoke/MethodHandle" ∧ y.cls ≠ "java/lang/invoke/VarHandle" ∧ (parseMethodDescriptor y.desc).map (fun d => d.parameters.length) = some n)
theorem wF_X11_10 : Cond.fieldLink RX11 10 "OneSocket" "told" "LOneSocket$Told;" ∈ lw_tbl := List.mem_of_getElem? (i := 294) (by decide +kernel)
theorem wF_X11_16 : Cond.fieldLink RX11 16 "OneSocket" "draft" "LOneSocket$Told;" ∈ lw_tbl := List.mem_of_getElem? (i := 297) (by decide +kernel)
theorem wF_X11_22 : Cond.fieldLink RX11 22 "OneSocket" "text" "LOneSocket$Reader;" ∈ lw_tbl := List.mem_of_getElem? (i := 298) (by decide +kernel)
theorem wF_X11_29 : Cond.fieldLink RX11 29 "OneSocket" "state" "LOneSocket$Now;" ∈ lw_tbl := List.mem_of_getElem? (i := 299) (by decide +kernel)
theorem wF_X11_36 : Cond.fieldLink RX11 36 "OneSocket" "book" "LOneSocket$Book;" ∈ lw_tbl := List.mem_of_getElem? (i := 302) (by decide +kernel)
theorem wF_X11_43 : Cond.fieldLink RX11 43 "OneSocket" "planner" "LOneSocket$Planner;" ∈ lw_tbl := List.mem_of_getElem? (i := 303) (by decide +kernel)
theorem wF_X11_49 : Cond.fieldLink RX11 49 "OneSocket" "kinds" "[LOneSocket$Telephone;" ∈ lw_tbl := List.mem_of_getElem? (i := 304) (by decide +kernel)
theorem wF_X11_55 : Cond.fieldLink RX11 55 "OneSocket" "images" "[[I" ∈ lw_tbl := List.mem_of_getElem? (i := 305) (by decide +kernel)
theorem wF_X11_58 : Cond.fieldLink RX11 58 "OneSocket" "kept" "[Z" ∈ lw_tbl := List.mem_of_getElem? (i := 306) (by decide +kernel)
theorem wF_X11_62 : Cond.fieldLink RX11 62 "OneSocket" "saidPhone" "[I" ∈ lw_tbl := List.mem_of_getElem? (i := 307) (by decide +kernel)
theorem wF_X11_66 : Cond.fieldLink RX11 66 "OneSocket" "saidFirst" "[I" ∈ lw_tbl := List.mem_of_getElem? (i := 308) (by decide +kernel)
theorem wF_X11_69 : Cond.fieldLink RX11 69 "OneSocket" "saidTurns" "[I" ∈ lw_tbl := List.mem_of_getElem? (i := 309) (by decide +kernel)
theorem wF_X11_72 : Cond.fieldLink RX11 72 "OneSocket" "saidThen" "[I" ∈ lw_tbl := List.mem_of_getElem? (i := 310) (by decide +kernel)
theorem wF_X11_75 : Cond.fieldLink RX11 75 "OneSocket" "lines" "I" ∈ lw_tbl := List.mem_of_getElem? (i := 311) (by decide +kernel)
theorem wF_X11_79 : Cond.fieldLink RX11 79 "OneSocket" "traced" "J" ∈ lw_tbl := List.mem_of_getElem? (i := 312) (by decide +kernel)
theorem wF_X11_103 : Cond.fieldLink RX11 103 "OneSocket$Reader" "length" "I" ∈ lw_tbl := List.mem_of_getElem? (i := 142) (by decide +kernel)
theorem wF_X11_110 : Cond.fieldLink RX11 110 "OneSocket$Reader" "tokenPlace" "I" ∈ lw_tbl := List.mem_of_getElem? (i := 144) (by decide +kernel)
theorem wF_X11_120 : Cond.fieldLink RX11 120 "OneSocket$Book" "pages" "I" ∈ lw_tbl := List.mem_of_getElem? (i := 211) (by decide +kernel)
theorem wF_X11_126 : Cond.fieldLink RX11 126 "OneSocket$Now" "level" "[I" ∈ lw_tbl := List.mem_of_getElem? (i := 182) (by decide +kernel)
theorem wF_X11_129 : Cond.fieldLink RX11 129 "OneSocket$Told" "fills" "[I" ∈ lw_tbl := List.mem_of_getElem? (i := 90) (by decide +kernel)
theorem wF_X11_132 : Cond.fieldLink RX11 132 "OneSocket$Told" "runs" "[I" ∈ lw_tbl := List.mem_of_getElem? (i := 94) (by decide +kernel)
theorem wF_X11_135 : Cond.fieldLink RX11 135 "OneSocket$Now" "turnsOn" "[I" ∈ lw_tbl := List.mem_of_getElem? (i := 186) (by decide +kernel)
theorem wF_X11_141 : Cond.fieldLink RX11 141 "OneSocket$Told" "calls" "I" ∈ lw_tbl := List.mem_of_getElem? (i := 81) (by decide +kernel)
theorem wF_X11_148 : Cond.fieldLink RX11 148 "OneSocket$Told" "callPhone" "[I" ∈ lw_tbl := List.mem_of_getElem? (i := 97) (by decide +kernel)
theorem wF_X11_151 : Cond.fieldLink RX11 151 "OneSocket$Told" "callTurn" "[I" ∈ lw_tbl := List.mem_of_getElem? (i := 100) (by decide +kernel)
theorem wF_X11_154 : Cond.fieldLink RX11 154 "OneSocket$Told" "callNeeds" "[I" ∈ lw_tbl := List.mem_of_getElem? (i := 103) (by decide +kernel)
theorem wF_X11_167 : Cond.fieldLink RX11 167 "OneSocket$Now" "on" "I" ∈ lw_tbl := List.mem_of_getElem? (i := 175) (by decide +kernel)
theorem wF_X11_170 : Cond.fieldLink RX11 170 "OneSocket$Now" "gotUp" "I" ∈ lw_tbl := List.mem_of_getElem? (i := 177) (by decide +kernel)
theorem wF_X11_173 : Cond.fieldLink RX11 173 "OneSocket$Now" "turn" "I" ∈ lw_tbl := List.mem_of_getElem? (i := 172) (by decide +kernel)
theorem wF_X11_179 : Cond.fieldLink RX11 179 "OneSocket$Told" "phones" "I" ∈ lw_tbl := List.mem_of_getElem? (i := 75) (by decide +kernel)
theorem wF_X11_194 : Cond.fieldLink RX11 194 "OneSocket$Now" "missed" "I" ∈ lw_tbl := List.mem_of_getElem? (i := 179) (by decide +kernel)
theorem wF_X11_214 : Cond.fieldLink RX11 214 "OneSocket$Planner" "best" "[I" ∈ lw_tbl := List.mem_of_getElem? (i := 227) (by decide +kernel)
theorem wF_X11_263 : Cond.fieldLink RX11 263 "OneSocket$Told" "holes" "I" ∈ lw_tbl := List.mem_of_getElem? (i := 78) (by decide +kernel)
theorem wF_X11_266 : Cond.fieldLink RX11 266 "OneSocket$Told" "darks" "I" ∈ lw_tbl := List.mem_of_getElem? (i := 84) (by decide +kernel)
theorem wF_X0_7 : Cond.fieldLinkNest RX0 7 "OneSocket" "traced" "J" "OneSocket" ∈ lw_tbl := List.mem_of_getElem? (i := 314) (by decide +kernel)
theorem wF_X0_19 : Cond.fieldLinkNest RX0 19 "OneSocket" "told" "LOneSocket$Told;" "OneSocket" ∈ lw_tbl := List.mem_of_getElem? (i := 295) (by decide +kernel)
theorem wF_X1_7 : Cond.fieldLinkNest RX1 7 "OneSocket" "traced" "J" "OneSocket" ∈ lw_tbl := List.mem_of_getElem? (i := 315) (by decide +kernel)
theorem wF_X2_13 : Cond.fieldLink RX2 13 "OneSocket$Book" "rows" "[[I" ∈ lw_tbl := List.mem_of_getElem? (i := 208) (by decide +kernel)
theorem wF_X2_16 : Cond.fieldLink RX2 16 "OneSocket$Book" "newest" "I" ∈ lw_tbl := List.mem_of_getElem? (i := 209) (by decide +kernel)
theorem wF_X2_20 : Cond.fieldLink RX2 20 "OneSocket$Book" "pages" "I" ∈ lw_tbl := List.mem_of_getElem? (i := 210) (by decide +kernel)
theorem wF_X3_7 : Cond.fieldLinkNest RX3 7 "OneSocket" "traced" "J" "OneSocket" ∈ lw_tbl := List.mem_of_getElem? (i := 316) (by decide +kernel)
theorem wF_X3_19 : Cond.fieldLinkNest RX3 19 "OneSocket" "told" "LOneSocket$Told;" "OneSocket" ∈ lw_tbl := List.mem_of_getElem? (i := 296) (by decide +kernel)
theorem wF_X3_23 : Cond.fieldLink RX3 23 "OneSocket$Told" "runs" "[I" ∈ lw_tbl := List.mem_of_getElem? (i := 92) (by decide +kernel)
theorem wF_X4_11 : Cond.fieldLink RX4 11 "OneSocket$Now" "turn" "I" ∈ lw_tbl := List.mem_of_getElem? (i := 170) (by decide +kernel)
theorem wF_X4_15 : Cond.fieldLink RX4 15 "OneSocket$Now" "on" "I" ∈ lw_tbl := List.mem_of_getElem? (i := 173) (by decide +kernel)
theorem wF_X4_18 : Cond.fieldLink RX4 18 "OneSocket$Now" "gotUp" "I" ∈ lw_tbl := List.mem_of_getElem? (i := 176) (by decide +kernel)
theorem wF_X4_21 : Cond.fieldLink RX4 21 "OneSocket$Now" "missed" "I" ∈ lw_tbl := List.mem_of_getElem? (i := 178) (by decide +kernel)
theorem wF_X4_24 : Cond.fieldLink RX4 24 "OneSocket$Now" "level" "[I" ∈ lw_tbl := List.mem_of_getElem? (i := 180) (by decide +kernel)
theorem wF_X4_28 : Cond.fieldLink RX4 28 "OneSocket$Now" "turnsOn" "[I" ∈ lw_tbl := List.mem_of_getElem? (i := 184) (by decide +kernel)
theorem wF_X4_31 : Cond.fieldLink RX4 31 "OneSocket$Told" "level" "[I" ∈ lw_tbl := List.mem_of_getElem? (i := 86) (by decide +kernel)
theorem wF_X4_38 : Cond.fieldLink RX4 38 "OneSocket$Told" "phones" "I" ∈ lw_tbl := List.mem_of_getElem? (i := 73) (by decide +kernel)
theorem wF_X5_9 : Cond.fieldLink RX5 9 "OneSocket$Planner" "best" "[I" ∈ lw_tbl := List.mem_of_getElem? (i := 226) (by decide +kernel)
theorem wF_X5_15 : Cond.fieldLink RX5 15 "OneSocket$Planner" "row" "[I" ∈ lw_tbl := List.mem_of_getElem? (i := 228) (by decide +kernel)
theorem wF_X5_20 : Cond.fieldLink RX5 20 "OneSocket$Planner" "least" "[[I" ∈ lw_tbl := List.mem_of_getElem? (i := 229) (by decide +kernel)
theorem wF_X5_23 : Cond.fieldLink RX5 23 "OneSocket$Planner" "node" "[[I" ∈ lw_tbl := List.mem_of_getElem? (i := 230) (by decide +kernel)
theorem wF_X5_26 : Cond.fieldLink RX5 26 "OneSocket$Planner" "bestCost" "I" ∈ lw_tbl := List.mem_of_getElem? (i := 231) (by decide +kernel)
theorem wF_X5_30 : Cond.fieldLink RX5 30 "OneSocket$Planner" "turns" "I" ∈ lw_tbl := List.mem_of_getElem? (i := 232) (by decide +kernel)
theorem wF_X5_33 : Cond.fieldLink RX5 33 "OneSocket$Planner" "firstTurn" "I" ∈ lw_tbl := List.mem_of_getElem? (i := 233) (by decide +kernel)
theorem wF_X5_36 : Cond.fieldLink RX5 36 "OneSocket$Now" "turn" "I" ∈ lw_tbl := List.mem_of_getElem? (i := 171) (by decide +kernel)
theorem wF_X5_41 : Cond.fieldLink RX5 41 "OneSocket$Told" "phones" "I" ∈ lw_tbl := List.mem_of_getElem? (i := 74) (by decide +kernel)
theorem wF_X5_46 : Cond.fieldLink RX5 46 "OneSocket$Now" "level" "[I" ∈ lw_tbl := List.mem_of_getElem? (i := 183) (by decide +kernel)
theorem wF_X5_56 : Cond.fieldLink RX5 56 "OneSocket$Now" "on" "I" ∈ lw_tbl := List.mem_of_getElem? (i := 174) (by decide +kernel)
theorem wF_X6_7 : Cond.fieldLinkNest RX6 7 "OneSocket" "traced" "J" "OneSocket" ∈ lw_tbl := List.mem_of_getElem? (i := 317) (by decide +kernel)
theorem wF_X7_9 : Cond.fieldLink RX7 9 "OneSocket$Reader" "letters" "[I" ∈ lw_tbl := List.mem_of_getElem? (i := 140) (by decide +kernel)
theorem wF_X7_15 : Cond.fieldLink RX7 15 "OneSocket$Reader" "length" "I" ∈ lw_tbl := List.mem_of_getElem? (i := 141) (by decide +kernel)
theorem wF_X7_19 : Cond.fieldLink RX7 19 "OneSocket$Reader" "tokenPlace" "I" ∈ lw_tbl := List.mem_of_getElem? (i := 143) (by decide +kernel)
theorem wF_X7_22 : Cond.fieldLink RX7 22 "OneSocket$Reader" "place" "I" ∈ lw_tbl := List.mem_of_getElem? (i := 145) (by decide +kernel)
theorem wF_X7_25 : Cond.fieldLink RX7 25 "OneSocket$Reader" "token" "I" ∈ lw_tbl := List.mem_of_getElem? (i := 146) (by decide +kernel)
theorem wF_X7_28 : Cond.fieldLink RX7 28 "OneSocket$Reader" "value" "I" ∈ lw_tbl := List.mem_of_getElem? (i := 147) (by decide +kernel)
theorem wF_X7_31 : Cond.fieldLink RX7 31 "OneSocket$Reader" "holesTold" "Z" ∈ lw_tbl := List.mem_of_getElem? (i := 148) (by decide +kernel)
theorem wF_X7_43 : Cond.fieldLink RX7 43 "OneSocket$Told" "phones" "I" ∈ lw_tbl := List.mem_of_getElem? (i := 72) (by decide +kernel)
theorem wF_X7_53 : Cond.fieldLink RX7 53 "OneSocket$Told" "calls" "I" ∈ lw_tbl := List.mem_of_getElem? (i := 80) (by decide +kernel)
theorem wF_X7_59 : Cond.fieldLink RX7 59 "OneSocket$Told" "darks" "I" ∈ lw_tbl := List.mem_of_getElem? (i := 83) (by decide +kernel)
theorem wF_X7_69 : Cond.fieldLink RX7 69 "OneSocket$Told" "level" "[I" ∈ lw_tbl := List.mem_of_getElem? (i := 87) (by decide +kernel)
theorem wF_X7_72 : Cond.fieldLink RX7 72 "OneSocket$Told" "fills" "[I" ∈ lw_tbl := List.mem_of_getElem? (i := 89) (by decide +kernel)
theorem wF_X7_75 : Cond.fieldLink RX7 75 "OneSocket$Told" "runs" "[I" ∈ lw_tbl := List.mem_of_getElem? (i := 93) (by decide +kernel)
theorem wF_X7_82 : Cond.fieldLink RX7 82 "OneSocket$Told" "holes" "I" ∈ lw_tbl := List.mem_of_getElem? (i := 77) (by decide +kernel)
theorem wF_X7_85 : Cond.fieldLink RX7 85 "OneSocket$Told" "callPhone" "[I" ∈ lw_tbl := List.mem_of_getElem? (i := 96) (by decide +kernel)
theorem wF_X7_88 : Cond.fieldLink RX7 88 "OneSocket$Told" "callTurn" "[I" ∈ lw_tbl := List.mem_of_getElem? (i := 99) (by decide +kernel)
theorem wF_X7_91 : Cond.fieldLink RX7 91 "OneSocket$Told" "callNeeds" "[I" ∈ lw_tbl := List.mem_of_getElem? (i := 102) (by decide +kernel)
theorem wF_X7_94 : Cond.fieldLink RX7 94 "OneSocket$Told" "darkFrom" "[I" ∈ lw_tbl := List.mem_of_getElem? (i := 105) (by decide +kernel)
theorem wF_X7_97 : Cond.fieldLink RX7 97 "OneSocket$Told" "darkTo" "[I" ∈ lw_tbl := List.mem_of_getElem? (i := 107) (by decide +kernel)
theorem wF_X8_7 : Cond.fieldLinkNest RX8 7 "OneSocket" "traced" "J" "OneSocket" ∈ lw_tbl := List.mem_of_getElem? (i := 318) (by decide +kernel)
theorem wF_X8_19 : Cond.fieldLinkNest RX8 19 "OneSocket" "state" "LOneSocket$Now;" "OneSocket" ∈ lw_tbl := List.mem_of_getElem? (i := 301) (by decide +kernel)
theorem wF_X8_23 : Cond.fieldLink RX8 23 "OneSocket$Now" "turnsOn" "[I" ∈ lw_tbl := List.mem_of_getElem? (i := 185) (by decide +kernel)
theorem wF_X9_7 : Cond.fieldLinkNest RX9 7 "OneSocket" "traced" "J" "OneSocket" ∈ lw_tbl := List.mem_of_getElem? (i := 313) (by decide +kernel)
theorem wF_X9_13 : Cond.fieldLinkNest RX9 13 "OneSocket" "state" "LOneSocket$Now;" "OneSocket" ∈ lw_tbl := List.mem_of_getElem? (i := 300) (by decide +kernel)
theorem wF_X9_17 : Cond.fieldLink RX9 17 "OneSocket$Now" "level" "[I" ∈ lw_tbl := List.mem_of_getElem? (i := 181) (by decide +kernel)
theorem wF_X10_9 : Cond.fieldLink RX10 9 "OneSocket$Told" "phones" "I" ∈ lw_tbl := List.mem_of_getElem? (i := 71) (by decide +kernel)
theorem wF_X10_15 : Cond.fieldLink RX10 15 "OneSocket$Told" "holes" "I" ∈ lw_tbl := List.mem_of_getElem? (i := 76) (by decide +kernel)
theorem wF_X10_18 : Cond.fieldLink RX10 18 "OneSocket$Told" "calls" "I" ∈ lw_tbl := List.mem_of_getElem? (i := 79) (by decide +kernel)
theorem wF_X10_21 : Cond.fieldLink RX10 21 "OneSocket$Told" "darks" "I" ∈ lw_tbl := List.mem_of_getElem? (i := 82) (by decide +kernel)
theorem wF_X10_24 : Cond.fieldLink RX10 24 "OneSocket$Told" "level" "[I" ∈ lw_tbl := List.mem_of_getElem? (i := 85) (by decide +kernel)
theorem wF_X10_28 : Cond.fieldLink RX10 28 "OneSocket$Told" "fills" "[I" ∈ lw_tbl := List.mem_of_getElem? (i := 88) (by decide +kernel)
theorem wF_X10_31 : Cond.fieldLink RX10 31 "OneSocket$Told" "runs" "[I" ∈ lw_tbl := List.mem_of_getElem? (i := 91) (by decide +kernel)
theorem wF_X10_34 : Cond.fieldLink RX10 34 "OneSocket$Told" "callPhone" "[I" ∈ lw_tbl := List.mem_of_getElem? (i := 95) (by decide +kernel)
theorem wF_X10_37 : Cond.fieldLink RX10 37 "OneSocket$Told" "callTurn" "[I" ∈ lw_tbl := List.mem_of_getElem? (i := 98) (by decide +kernel)
theorem wF_X10_40 : Cond.fieldLink RX10 40 "OneSocket$Told" "callNeeds" "[I" ∈ lw_tbl := List.mem_of_getElem? (i := 101) (by decide +kernel)
theorem wF_X10_43 : Cond.fieldLink RX10 43 "OneSocket$Told" "darkFrom" "[I" ∈ lw_tbl := List.mem_of_getElem? (i := 104) (by decide +kernel)
theorem wF_X10_46 : Cond.fieldLink RX10 46 "OneSocket$Told" "darkTo" "[I" ∈ lw_tbl := List.mem_of_getElem? (i := 106) (by decide +kernel)
theorem wF_X12_7 : Cond.fieldLink RX12 7 "OneSocketModel" "text" "[I" ∈ lw_tbl := List.mem_of_getElem? (i := 708) (by decide +kernel)
theorem wF_X12_13 : Cond.fieldLink RX12 13 "OneSocketModel" "phones" "[I" ∈ lw_tbl := List.mem_of_getElem? (i := 715) (by decide +kernel)
theorem wF_X12_16 : Cond.fieldLink RX12 16 "OneSocketModel" "calls" "[I" ∈ lw_tbl := List.mem_of_getElem? (i := 716) (by decide +kernel)
theorem wF_X12_19 : Cond.fieldLink RX12 19 "OneSocketModel" "darks" "[I" ∈ lw_tbl := List.mem_of_getElem? (i := 717) (by decide +kernel)
theorem wF_X12_22 : Cond.fieldLink RX12 22 "OneSocketModel" "s" "[I" ∈ lw_tbl := List.mem_of_getElem? (i := 726) (by decide +kernel)
theorem wF_X12_25 : Cond.fieldLink RX12 25 "OneSocketModel" "w" "[I" ∈ lw_tbl := List.mem_of_getElem? (i := 727) (by decide +kernel)
theorem wF_X12_28 : Cond.fieldLink RX12 28 "OneSocketModel" "kept" "[I" ∈ lw_tbl := List.mem_of_getElem? (i := 728) (by decide +kernel)
theorem wF_X12_31 : Cond.fieldLink RX12 31 "OneSocketModel" "isKept" "[Z" ∈ lw_tbl := List.mem_of_getElem? (i := 729) (by decide +kernel)
theorem wF_X12_35 : Cond.fieldLink RX12 35 "OneSocketModel" "undos" "[I" ∈ lw_tbl := List.mem_of_getElem? (i := 730) (by decide +kernel)
theorem wF_X12_38 : Cond.fieldLink RX12 38 "OneSocketModel" "said" "[I" ∈ lw_tbl := List.mem_of_getElem? (i := 732) (by decide +kernel)
theorem wF_X12_41 : Cond.fieldLink RX12 41 "OneSocketModel" "row" "[I" ∈ lw_tbl := List.mem_of_getElem? (i := 734) (by decide +kernel)
theorem wF_X12_44 : Cond.fieldLink RX12 44 "OneSocketModel" "best" "[I" ∈ lw_tbl := List.mem_of_getElem? (i := 735) (by decide +kernel)
theorem wF_X12_47 : Cond.fieldLink RX12 47 "OneSocketModel" "likely" "[J" ∈ lw_tbl := List.mem_of_getElem? (i := 736) (by decide +kernel)
theorem wF_X12_51 : Cond.fieldLink RX12 51 "OneSocketModel" "then" "[J" ∈ lw_tbl := List.mem_of_getElem? (i := 737) (by decide +kernel)
theorem wF_X12_54 : Cond.fieldLink RX12 54 "OneSocketModel" "choices" "[I" ∈ lw_tbl := List.mem_of_getElem? (i := 738) (by decide +kernel)
theorem wF_X12_57 : Cond.fieldLink RX12 57 "OneSocketModel" "holes" "I" ∈ lw_tbl := List.mem_of_getElem? (i := 721) (by decide +kernel)
theorem wF_X12_61 : Cond.fieldLink RX12 61 "OneSocketModel" "thrown" "I" ∈ lw_tbl := List.mem_of_getElem? (i := 706) (by decide +kernel)
theorem wF_X12_68 : Cond.fieldLink RX12 68 "OneSocketModel" "typed" "I" ∈ lw_tbl := List.mem_of_getElem? (i := 709) (by decide +kernel)
theorem wF_X12_71 : Cond.fieldLink RX12 71 "OneSocketModel" "next" "I" ∈ lw_tbl := List.mem_of_getElem? (i := 710) (by decide +kernel)
theorem wF_X12_78 : Cond.fieldLink RX12 78 "OneSocketModel" "place" "I" ∈ lw_tbl := List.mem_of_getElem? (i := 712) (by decide +kernel)
theorem wF_X12_81 : Cond.fieldLink RX12 81 "OneSocketModel" "token" "I" ∈ lw_tbl := List.mem_of_getElem? (i := 711) (by decide +kernel)
theorem wF_X12_84 : Cond.fieldLink RX12 84 "OneSocketModel" "value" "I" ∈ lw_tbl := List.mem_of_getElem? (i := 713) (by decide +kernel)
theorem wF_X12_87 : Cond.fieldLink RX12 87 "OneSocketModel" "fault" "I" ∈ lw_tbl := List.mem_of_getElem? (i := 714) (by decide +kernel)
theorem wF_X12_101 : Cond.fieldLink RX12 101 "OneSocketModel" "draftMany" "I" ∈ lw_tbl := List.mem_of_getElem? (i := 722) (by decide +kernel)
theorem wF_X12_104 : Cond.fieldLink RX12 104 "OneSocketModel" "draftHoles" "I" ∈ lw_tbl := List.mem_of_getElem? (i := 725) (by decide +kernel)
theorem wF_X12_107 : Cond.fieldLink RX12 107 "OneSocketModel" "draftCalls" "I" ∈ lw_tbl := List.mem_of_getElem? (i := 723) (by decide +kernel)
theorem wF_X12_110 : Cond.fieldLink RX12 110 "OneSocketModel" "draftDarks" "I" ∈ lw_tbl := List.mem_of_getElem? (i := 724) (by decide +kernel)
theorem wF_X12_127 : Cond.fieldLink RX12 127 "OneSocketModel" "many" "I" ∈ lw_tbl := List.mem_of_getElem? (i := 718) (by decide +kernel)
theorem wF_X12_130 : Cond.fieldLink RX12 130 "OneSocketModel" "callMany" "I" ∈ lw_tbl := List.mem_of_getElem? (i := 719) (by decide +kernel)
theorem wF_X12_133 : Cond.fieldLink RX12 133 "OneSocketModel" "darkMany" "I" ∈ lw_tbl := List.mem_of_getElem? (i := 720) (by decide +kernel)
theorem wF_X12_136 : Cond.fieldLink RX12 136 "OneSocketModel" "undoMany" "I" ∈ lw_tbl := List.mem_of_getElem? (i := 731) (by decide +kernel)
theorem wF_X12_139 : Cond.fieldLink RX12 139 "OneSocketModel" "saidMany" "I" ∈ lw_tbl := List.mem_of_getElem? (i := 733) (by decide +kernel)
theorem wF_X12_183 : Cond.fieldLink RX12 183 "OneSocketModel" "choiceMany" "I" ∈ lw_tbl := List.mem_of_getElem? (i := 739) (by decide +kernel)
theorem wF_X12_199 : Cond.fieldLink RX12 199 "OneSocketModel" "bestMissed" "I" ∈ lw_tbl := List.mem_of_getElem? (i := 740) (by decide +kernel)
theorem wF_X12_202 : Cond.fieldLink RX12 202 "OneSocketModel" "bestOut" "I" ∈ lw_tbl := List.mem_of_getElem? (i := 741) (by decide +kernel)
theorem wF_X12_205 : Cond.fieldLink RX12 205 "OneSocketModel" "bestUp" "I" ∈ lw_tbl := List.mem_of_getElem? (i := 742) (by decide +kernel)
theorem wF_X12_233 : Cond.fieldLink RX12 233 "OneSocketModel" "trace" "J" ∈ lw_tbl := List.mem_of_getElem? (i := 707) (by decide +kernel)
theorem wK_X11_251 : Cond.constant RX11 251 (-1000000) ∈ lw_tbl := List.mem_of_getElem? (i := 647) (by decide +kernel)
theorem wK_X5_55 : Cond.constant RX5 55 (2147483647) ∈ lw_tbl := List.mem_of_getElem? (i := 567) (by decide +kernel)
theorem wK_X12_232 : Cond.constant RX12 232 (-1000000) ∈ lw_tbl := List.mem_of_getElem? (i := 1018) (by decide +kernel)
theorem wK_J6_265 : Cond.constant RJ6 265 (1431655765) ∈ lw_tbl := List.mem_of_getElem? (i := 465) (by decide +kernel)
theorem wK_J6_266 : Cond.constant RJ6 266 (858993459) ∈ lw_tbl := List.mem_of_getElem? (i := 466) (by decide +kernel)
theorem wK_J6_267 : Cond.constant RJ6 267 (252645135) ∈ lw_tbl := List.mem_of_getElem? (i := 467) (by decide +kernel)
theorem wK_X11_236 : Cond.constantLong RX11 236 (-1) ∈ lw_tbl := List.mem_of_getElem? (i := 633) (by decide +kernel)
theorem wK_X11_242 : Cond.constantLong RX11 242 (10) ∈ lw_tbl := List.mem_of_getElem? (i := 639) (by decide +kernel)
theorem wK_X0_13 : Cond.constantLong RX0 13 (10) ∈ lw_tbl := List.mem_of_getElem? (i := 655) (by decide +kernel)
theorem wK_X1_13 : Cond.constantLong RX1 13 (1000) ∈ lw_tbl := List.mem_of_getElem? (i := 664) (by decide +kernel)
theorem wK_X3_13 : Cond.constantLong RX3 13 (100) ∈ lw_tbl := List.mem_of_getElem? (i := 669) (by decide +kernel)
theorem wK_X6_13 : Cond.constantLong RX6 13 (10000) ∈ lw_tbl := List.mem_of_getElem? (i := 674) (by decide +kernel)
theorem wK_X8_13 : Cond.constantLong RX8 13 (100000) ∈ lw_tbl := List.mem_of_getElem? (i := 679) (by decide +kernel)
theorem wK_X12_221 : Cond.constantLong RX12 221 (-1) ∈ lw_tbl := List.mem_of_getElem? (i := 1005) (by decide +kernel)
theorem wK_X12_226 : Cond.constantLong RX12 226 (10) ∈ lw_tbl := List.mem_of_getElem? (i := 1010) (by decide +kernel)
theorem wK_X12_237 : Cond.constantLong RX12 237 (11) ∈ lw_tbl := List.mem_of_getElem? (i := 1019) (by decide +kernel)
theorem wK_X12_239 : Cond.constantLong RX12 239 (101) ∈ lw_tbl := List.mem_of_getElem? (i := 1020) (by decide +kernel)
theorem wK_X12_241 : Cond.constantLong RX12 241 (1011) ∈ lw_tbl := List.mem_of_getElem? (i := 1021) (by decide +kernel)
theorem wK_X12_243 : Cond.constantLong RX12 243 (10101) ∈ lw_tbl := List.mem_of_getElem? (i := 1022) (by decide +kernel)
theorem wK_X12_245 : Cond.constantLong RX12 245 (100001) ∈ lw_tbl := List.mem_of_getElem? (i := 1023) (by decide +kernel)
theorem cV_X11_99 : CVw RX11 99 RX7 yX7_add cX7_add 2 (some .boolean) 1 := ⟨⟨List.mem_of_getElem? (i := 354) (by decide +kernel), List.mem_of_getElem? (i := 355) (by decide +kernel), List.mem_of_getElem? (i := 356) (by decide +kernel), List.mem_of_getElem? (i := 43) (by decide +kernel), List.mem_of_getElem? (i := 357) (by decide +kernel)⟩, by decide +kernel⟩
theorem cV_X11_106 : CVw RX11 106 RX7 yX7_readInto cX7_readInto 4 (some .int) 1 := ⟨⟨List.mem_of_getElem? (i := 366) (by decide +kernel), List.mem_of_getElem? (i := 367) (by decide +kernel), List.mem_of_getElem? (i := 368) (by decide +kernel), List.mem_of_getElem? (i := 43) (by decide +kernel), List.mem_of_getElem? (i := 369) (by decide +kernel)⟩, by decide +kernel⟩
theorem cV_X11_113 : CVw RX11 113 RX10 yX10_take cX10_take 2 none 1 := ⟨⟨List.mem_of_getElem? (i := 418) (by decide +kernel), List.mem_of_getElem? (i := 419) (by decide +kernel), List.mem_of_getElem? (i := 420) (by decide +kernel), List.mem_of_getElem? (i := 42) (by decide +kernel), List.mem_of_getElem? (i := 421) (by decide +kernel)⟩, by decide +kernel⟩
theorem cV_X11_117 : CVw RX11 117 RX4 yX4_begin cX4_begin 3 none 1 := ⟨⟨List.mem_of_getElem? (i := 425) (by decide +kernel), List.mem_of_getElem? (i := 426) (by decide +kernel), List.mem_of_getElem? (i := 427) (by decide +kernel), List.mem_of_getElem? (i := 44) (by decide +kernel), List.mem_of_getElem? (i := 428) (by decide +kernel)⟩, by decide +kernel⟩
theorem cV_X11_123 : CVw RX11 123 RX11 yX11_isPhone cX11_isPhone 2 (some .boolean) 1 := ⟨⟨List.mem_of_getElem? (i := 433) (by decide +kernel), List.mem_of_getElem? (i := 435) (by decide +kernel), List.mem_of_getElem? (i := 8) (by decide +kernel), List.mem_of_getElem? (i := 41) (by decide +kernel), List.mem_of_getElem? (i := 436) (by decide +kernel)⟩, by decide +kernel⟩
theorem cV_X11_138 : CVw RX11 138 RX4 yX4_isOn cX4_isOn 2 (some .boolean) 1 := ⟨⟨List.mem_of_getElem? (i := 438) (by decide +kernel), List.mem_of_getElem? (i := 439) (by decide +kernel), List.mem_of_getElem? (i := 440) (by decide +kernel), List.mem_of_getElem? (i := 44) (by decide +kernel), List.mem_of_getElem? (i := 441) (by decide +kernel)⟩, by decide +kernel⟩
theorem cV_X11_144 : CSw RX11 144 yX11_isWithin cX11_isWithin 3 (some .boolean) 3 := ⟨⟨List.mem_of_getElem? (i := 437) (by decide +kernel), List.mem_of_getElem? (i := 400) (by decide +kernel), List.mem_of_getElem? (i := 41) (by decide +kernel), List.mem_of_getElem? (i := 401) (by decide +kernel)⟩, by decide +kernel⟩
theorem cV_X11_157 : CVw RX11 157 RX10 yX10_isDark cX10_isDark 3 (some .boolean) 1 := ⟨⟨List.mem_of_getElem? (i := 450) (by decide +kernel), List.mem_of_getElem? (i := 451) (by decide +kernel), List.mem_of_getElem? (i := 452) (by decide +kernel), List.mem_of_getElem? (i := 42) (by decide +kernel), List.mem_of_getElem? (i := 453) (by decide +kernel)⟩, by decide +kernel⟩
theorem cV_X11_160 : CVw RX11 160 RX10 yX10_canBeOn cX10_canBeOn 2 (some .boolean) 1 := ⟨⟨List.mem_of_getElem? (i := 458) (by decide +kernel), List.mem_of_getElem? (i := 459) (by decide +kernel), List.mem_of_getElem? (i := 460) (by decide +kernel), List.mem_of_getElem? (i := 42) (by decide +kernel), List.mem_of_getElem? (i := 461) (by decide +kernel)⟩, by decide +kernel⟩
theorem cV_X11_163 : CVw RX11 163 RX2 yX2_write cX2_write 2 none 1 := ⟨⟨List.mem_of_getElem? (i := 468) (by decide +kernel), List.mem_of_getElem? (i := 469) (by decide +kernel), List.mem_of_getElem? (i := 470) (by decide +kernel), List.mem_of_getElem? (i := 45) (by decide +kernel), List.mem_of_getElem? (i := 471) (by decide +kernel)⟩, by decide +kernel⟩
theorem cV_X11_176 : CVw RX11 176 RX4 yX4_goOn cX4_goOn 4 none 1 := ⟨⟨List.mem_of_getElem? (i := 482) (by decide +kernel), List.mem_of_getElem? (i := 483) (by decide +kernel), List.mem_of_getElem? (i := 484) (by decide +kernel), List.mem_of_getElem? (i := 44) (by decide +kernel), List.mem_of_getElem? (i := 485) (by decide +kernel)⟩, by decide +kernel⟩
theorem cV_X11_182 : CVw RX11 182 RX4 yX4_out cX4_out 4 (some .int) 1 := ⟨⟨List.mem_of_getElem? (i := 517) (by decide +kernel), List.mem_of_getElem? (i := 518) (by decide +kernel), List.mem_of_getElem? (i := 519) (by decide +kernel), List.mem_of_getElem? (i := 44) (by decide +kernel), List.mem_of_getElem? (i := 520) (by decide +kernel)⟩, by decide +kernel⟩
theorem cV_X11_186 : CSw RX11 186 yJ6_bitCount_0f7a4 cJ6_bitCount_0f7a4 1 (some .int) 1 := ⟨⟨List.mem_of_getElem? (i := 521) (by decide +kernel), List.mem_of_getElem? (i := 463) (by decide +kernel), List.mem_of_getElem? (i := 56) (by decide +kernel), List.mem_of_getElem? (i := 464) (by decide +kernel)⟩, by decide +kernel⟩
theorem cV_X11_191 : CVw RX11 191 RX2 yX2_takeBack cX2_takeBack 2 none 1 := ⟨⟨List.mem_of_getElem? (i := 530) (by decide +kernel), List.mem_of_getElem? (i := 531) (by decide +kernel), List.mem_of_getElem? (i := 532) (by decide +kernel), List.mem_of_getElem? (i := 45) (by decide +kernel), List.mem_of_getElem? (i := 533) (by decide +kernel)⟩, by decide +kernel⟩
theorem cV_X11_197 : CVw RX11 197 RX4 yX4_fair cX4_fair 5 (some .int) 1 := ⟨⟨List.mem_of_getElem? (i := 542) (by decide +kernel), List.mem_of_getElem? (i := 543) (by decide +kernel), List.mem_of_getElem? (i := 544) (by decide +kernel), List.mem_of_getElem? (i := 44) (by decide +kernel), List.mem_of_getElem? (i := 545) (by decide +kernel)⟩, by decide +kernel⟩
theorem cV_X11_200 : CVw RX11 200 RX4 yX4_leans cX4_leans 5 (some .int) 1 := ⟨⟨List.mem_of_getElem? (i := 548) (by decide +kernel), List.mem_of_getElem? (i := 549) (by decide +kernel), List.mem_of_getElem? (i := 550) (by decide +kernel), List.mem_of_getElem? (i := 44) (by decide +kernel), List.mem_of_getElem? (i := 551) (by decide +kernel)⟩, by decide +kernel⟩
theorem cV_X11_203 : CVw RX11 203 RX5 yX5_make cX5_make 5 none 3 := ⟨⟨List.mem_of_getElem? (i := 556) (by decide +kernel), List.mem_of_getElem? (i := 557) (by decide +kernel), List.mem_of_getElem? (i := 558) (by decide +kernel), List.mem_of_getElem? (i := 46) (by decide +kernel), List.mem_of_getElem? (i := 559) (by decide +kernel)⟩, by decide +kernel⟩
theorem cV_X11_207 : CVw RX11 207 RX5 yX5_missed cX5_missed 1 (some .int) 0 := ⟨⟨List.mem_of_getElem? (i := 582) (by decide +kernel), List.mem_of_getElem? (i := 583) (by decide +kernel), List.mem_of_getElem? (i := 584) (by decide +kernel), List.mem_of_getElem? (i := 46) (by decide +kernel), List.mem_of_getElem? (i := 585) (by decide +kernel)⟩, by decide +kernel⟩
theorem cV_X11_210 : CVw RX11 210 RX5 yX5_out cX5_out 1 (some .int) 0 := ⟨⟨List.mem_of_getElem? (i := 586) (by decide +kernel), List.mem_of_getElem? (i := 587) (by decide +kernel), List.mem_of_getElem? (i := 588) (by decide +kernel), List.mem_of_getElem? (i := 46) (by decide +kernel), List.mem_of_getElem? (i := 589) (by decide +kernel)⟩, by decide +kernel⟩
theorem cV_X11_212 : CVw RX11 212 RX5 yX5_gotUp cX5_gotUp 1 (some .int) 0 := ⟨⟨List.mem_of_getElem? (i := 590) (by decide +kernel), List.mem_of_getElem? (i := 591) (by decide +kernel), List.mem_of_getElem? (i := 592) (by decide +kernel), List.mem_of_getElem? (i := 46) (by decide +kernel), List.mem_of_getElem? (i := 593) (by decide +kernel)⟩, by decide +kernel⟩
theorem cV_X11_217 : CVw RX11 217 RX10 yX10_levelBehind cX10_levelBehind 6 (some .int) 4 := ⟨⟨List.mem_of_getElem? (i := 598) (by decide +kernel), List.mem_of_getElem? (i := 497) (by decide +kernel), List.mem_of_getElem? (i := 498) (by decide +kernel), List.mem_of_getElem? (i := 42) (by decide +kernel), List.mem_of_getElem? (i := 499) (by decide +kernel)⟩, by decide +kernel⟩
theorem cV_X11_221 : CVw RX11 221 RX11 yX11_holdsOut cX11_holdsOut 6 (some .boolean) 3 := ⟨⟨List.mem_of_getElem? (i := 603) (by decide +kernel), List.mem_of_getElem? (i := 605) (by decide +kernel), List.mem_of_getElem? (i := 13) (by decide +kernel), List.mem_of_getElem? (i := 41) (by decide +kernel), List.mem_of_getElem? (i := 606) (by decide +kernel)⟩, by decide +kernel⟩
theorem cV_X11_224 : CVw RX11 224 RX10 yX10_missedAt cX10_missedAt 7 (some .int) 3 := ⟨⟨List.mem_of_getElem? (i := 607) (by decide +kernel), List.mem_of_getElem? (i := 488) (by decide +kernel), List.mem_of_getElem? (i := 489) (by decide +kernel), List.mem_of_getElem? (i := 42) (by decide +kernel), List.mem_of_getElem? (i := 490) (by decide +kernel)⟩, by decide +kernel⟩
theorem cV_X11_228 : CVw RX11 228 RX11 yX11_leadsToWhatWasSeen cX11_leadsToWhatWasSeen 5 (some .boolean) 2 := ⟨⟨List.mem_of_getElem? (i := 620) (by decide +kernel), List.mem_of_getElem? (i := 622) (by decide +kernel), List.mem_of_getElem? (i := 14) (by decide +kernel), List.mem_of_getElem? (i := 41) (by decide +kernel), List.mem_of_getElem? (i := 623) (by decide +kernel)⟩, by decide +kernel⟩
theorem cV_X11_232 : CVw RX11 232 RX10 yX10_filled cX10_filled 4 (some .int) 2 := ⟨⟨List.mem_of_getElem? (i := 624) (by decide +kernel), List.mem_of_getElem? (i := 506) (by decide +kernel), List.mem_of_getElem? (i := 507) (by decide +kernel), List.mem_of_getElem? (i := 42) (by decide +kernel), List.mem_of_getElem? (i := 508) (by decide +kernel)⟩, by decide +kernel⟩
theorem cV_X11_238 : CVw RX11 238 RX11 yX11_waysOfTen cX11_waysOfTen 6 (some .long) 5 := ⟨⟨List.mem_of_getElem? (i := 634) (by decide +kernel), List.mem_of_getElem? (i := 636) (by decide +kernel), List.mem_of_getElem? (i := 15) (by decide +kernel), List.mem_of_getElem? (i := 41) (by decide +kernel), List.mem_of_getElem? (i := 637) (by decide +kernel)⟩, by decide +kernel⟩
theorem cV_X11_244 : CSw RX11 244 yX11_greatestDivisor cX11_greatestDivisor 11 (some .long) 2 := ⟨⟨List.mem_of_getElem? (i := 640) (by decide +kernel), List.mem_of_getElem? (i := 641) (by decide +kernel), List.mem_of_getElem? (i := 41) (by decide +kernel), List.mem_of_getElem? (i := 642) (by decide +kernel)⟩, by decide +kernel⟩
theorem cV_X11_248 : CVw RX11 248 RX10 yX10_drained cX10_drained 3 (some .int) 2 := ⟨⟨List.mem_of_getElem? (i := 638) (by decide +kernel), List.mem_of_getElem? (i := 514) (by decide +kernel), List.mem_of_getElem? (i := 515) (by decide +kernel), List.mem_of_getElem? (i := 42) (by decide +kernel), List.mem_of_getElem? (i := 516) (by decide +kernel)⟩, by decide +kernel⟩
theorem cV_X11_252 : CVw RX11 252 RX9 yX9_worth cX9_worth 3 (some .int) 2 := ⟨⟨List.mem_of_getElem? (i := 648) (by decide +kernel), List.mem_of_getElem? (i := 649) (by decide +kernel), List.mem_of_getElem? (i := 650) (by decide +kernel), List.mem_of_getElem? (i := 47) (by decide +kernel), List.mem_of_getElem? (i := 681) (by decide +kernel)⟩, by decide +kernel⟩
theorem cV_X11_256 : CVw RX11 256 RX4 yX4_copyTo cX4_copyTo 2 none 1 := ⟨⟨List.mem_of_getElem? (i := 686) (by decide +kernel), List.mem_of_getElem? (i := 473) (by decide +kernel), List.mem_of_getElem? (i := 474) (by decide +kernel), List.mem_of_getElem? (i := 44) (by decide +kernel), List.mem_of_getElem? (i := 475) (by decide +kernel)⟩, by decide +kernel⟩
theorem cV_X11_260 : CVw RX11 260 RX4 yX4_copyFrom cX4_copyFrom 2 none 1 := ⟨⟨List.mem_of_getElem? (i := 691) (by decide +kernel), List.mem_of_getElem? (i := 535) (by decide +kernel), List.mem_of_getElem? (i := 536) (by decide +kernel), List.mem_of_getElem? (i := 44) (by decide +kernel), List.mem_of_getElem? (i := 537) (by decide +kernel)⟩, by decide +kernel⟩
theorem cV_X0_15 : CVw RX0 15 RX9 yX9_worth cX9_worth 3 (some .int) 2 := ⟨⟨List.mem_of_getElem? (i := 656) (by decide +kernel), List.mem_of_getElem? (i := 649) (by decide +kernel), List.mem_of_getElem? (i := 650) (by decide +kernel), List.mem_of_getElem? (i := 47) (by decide +kernel), List.mem_of_getElem? (i := 681) (by decide +kernel)⟩, by decide +kernel⟩
theorem cV_X0_23 : CVw RX0 23 RX10 yX10_callsOf cX10_callsOf 4 (some .int) 1 := ⟨⟨List.mem_of_getElem? (i := 657) (by decide +kernel), List.mem_of_getElem? (i := 658) (by decide +kernel), List.mem_of_getElem? (i := 659) (by decide +kernel), List.mem_of_getElem? (i := 42) (by decide +kernel), List.mem_of_getElem? (i := 660) (by decide +kernel)⟩, by decide +kernel⟩
theorem cV_X2_23 : CVw RX2 23 RX4 yX4_copyTo cX4_copyTo 2 none 1 := ⟨⟨List.mem_of_getElem? (i := 472) (by decide +kernel), List.mem_of_getElem? (i := 473) (by decide +kernel), List.mem_of_getElem? (i := 474) (by decide +kernel), List.mem_of_getElem? (i := 44) (by decide +kernel), List.mem_of_getElem? (i := 475) (by decide +kernel)⟩, by decide +kernel⟩
theorem cV_X2_33 : CVw RX2 33 RX4 yX4_copyFrom cX4_copyFrom 2 none 1 := ⟨⟨List.mem_of_getElem? (i := 534) (by decide +kernel), List.mem_of_getElem? (i := 535) (by decide +kernel), List.mem_of_getElem? (i := 536) (by decide +kernel), List.mem_of_getElem? (i := 44) (by decide +kernel), List.mem_of_getElem? (i := 537) (by decide +kernel)⟩, by decide +kernel⟩
theorem cV_X3_15 : CVw RX3 15 RX9 yX9_worth cX9_worth 3 (some .int) 2 := ⟨⟨List.mem_of_getElem? (i := 670) (by decide +kernel), List.mem_of_getElem? (i := 649) (by decide +kernel), List.mem_of_getElem? (i := 650) (by decide +kernel), List.mem_of_getElem? (i := 47) (by decide +kernel), List.mem_of_getElem? (i := 681) (by decide +kernel)⟩, by decide +kernel⟩
theorem cV_X4_34 : CVw RX4 34 RX10 yX10_isDark cX10_isDark 3 (some .boolean) 1 := ⟨⟨List.mem_of_getElem? (i := 486) (by decide +kernel), List.mem_of_getElem? (i := 451) (by decide +kernel), List.mem_of_getElem? (i := 452) (by decide +kernel), List.mem_of_getElem? (i := 42) (by decide +kernel), List.mem_of_getElem? (i := 453) (by decide +kernel)⟩, by decide +kernel⟩
theorem cV_X4_41 : CVw RX4 41 RX10 yX10_missedAt cX10_missedAt 7 (some .int) 3 := ⟨⟨List.mem_of_getElem? (i := 487) (by decide +kernel), List.mem_of_getElem? (i := 488) (by decide +kernel), List.mem_of_getElem? (i := 489) (by decide +kernel), List.mem_of_getElem? (i := 42) (by decide +kernel), List.mem_of_getElem? (i := 490) (by decide +kernel)⟩, by decide +kernel⟩
theorem cV_X4_45 : CVw RX4 45 RX4 yX4_isOn cX4_isOn 2 (some .boolean) 1 := ⟨⟨List.mem_of_getElem? (i := 495) (by decide +kernel), List.mem_of_getElem? (i := 439) (by decide +kernel), List.mem_of_getElem? (i := 440) (by decide +kernel), List.mem_of_getElem? (i := 44) (by decide +kernel), List.mem_of_getElem? (i := 441) (by decide +kernel)⟩, by decide +kernel⟩
theorem cV_X4_48 : CVw RX4 48 RX10 yX10_levelBehind cX10_levelBehind 6 (some .int) 4 := ⟨⟨List.mem_of_getElem? (i := 496) (by decide +kernel), List.mem_of_getElem? (i := 497) (by decide +kernel), List.mem_of_getElem? (i := 498) (by decide +kernel), List.mem_of_getElem? (i := 42) (by decide +kernel), List.mem_of_getElem? (i := 499) (by decide +kernel)⟩, by decide +kernel⟩
theorem cV_X5_49 : CVw RX5 49 RX5 yX5_fillTree cX5_fillTree 12 (some .int) 6 := ⟨⟨List.mem_of_getElem? (i := 560) (by decide +kernel), List.mem_of_getElem? (i := 562) (by decide +kernel), List.mem_of_getElem? (i := 9) (by decide +kernel), List.mem_of_getElem? (i := 46) (by decide +kernel), List.mem_of_getElem? (i := 563) (by decide +kernel)⟩, by decide +kernel⟩
theorem cV_X5_59 : CVw RX5 59 RX5 yX5_search cX5_search 8 none 4 := ⟨⟨List.mem_of_getElem? (i := 568) (by decide +kernel), List.mem_of_getElem? (i := 570) (by decide +kernel), List.mem_of_getElem? (i := 10) (by decide +kernel), List.mem_of_getElem? (i := 46) (by decide +kernel), List.mem_of_getElem? (i := 571) (by decide +kernel)⟩, by decide +kernel⟩
theorem cV_X5_63 : CVw RX5 63 RX10 yX10_missedAt cX10_missedAt 7 (some .int) 3 := ⟨⟨List.mem_of_getElem? (i := 564) (by decide +kernel), List.mem_of_getElem? (i := 488) (by decide +kernel), List.mem_of_getElem? (i := 489) (by decide +kernel), List.mem_of_getElem? (i := 42) (by decide +kernel), List.mem_of_getElem? (i := 490) (by decide +kernel)⟩, by decide +kernel⟩
theorem cV_X5_67 : CVw RX5 67 RX10 yX10_levelBehind cX10_levelBehind 6 (some .int) 4 := ⟨⟨List.mem_of_getElem? (i := 565) (by decide +kernel), List.mem_of_getElem? (i := 497) (by decide +kernel), List.mem_of_getElem? (i := 498) (by decide +kernel), List.mem_of_getElem? (i := 42) (by decide +kernel), List.mem_of_getElem? (i := 499) (by decide +kernel)⟩, by decide +kernel⟩
theorem cV_X5_77 : CVw RX5 77 RX10 yX10_canBeOn cX10_canBeOn 2 (some .boolean) 1 := ⟨⟨List.mem_of_getElem? (i := 572) (by decide +kernel), List.mem_of_getElem? (i := 459) (by decide +kernel), List.mem_of_getElem? (i := 460) (by decide +kernel), List.mem_of_getElem? (i := 42) (by decide +kernel), List.mem_of_getElem? (i := 461) (by decide +kernel)⟩, by decide +kernel⟩
theorem cV_X5_81 : CVw RX5 81 RX5 yX5_enter cX5_enter 7 (some .int) 3 := ⟨⟨List.mem_of_getElem? (i := 573) (by decide +kernel), List.mem_of_getElem? (i := 575) (by decide +kernel), List.mem_of_getElem? (i := 11) (by decide +kernel), List.mem_of_getElem? (i := 46) (by decide +kernel), List.mem_of_getElem? (i := 576) (by decide +kernel)⟩, by decide +kernel⟩
theorem cV_X5_84 : CVw RX5 84 RX5 yX5_settleOrSearch cX5_settleOrSearch 6 none 5 := ⟨⟨List.mem_of_getElem? (i := 577) (by decide +kernel), List.mem_of_getElem? (i := 579) (by decide +kernel), List.mem_of_getElem? (i := 12) (by decide +kernel), List.mem_of_getElem? (i := 46) (by decide +kernel), List.mem_of_getElem? (i := 580) (by decide +kernel)⟩, by decide +kernel⟩
theorem cV_X7_35 : CVw RX7 35 RX10 yX10_empty cX10_empty 1 none 0 := ⟨⟨List.mem_of_getElem? (i := 370) (by decide +kernel), List.mem_of_getElem? (i := 371) (by decide +kernel), List.mem_of_getElem? (i := 372) (by decide +kernel), List.mem_of_getElem? (i := 42) (by decide +kernel), List.mem_of_getElem? (i := 373) (by decide +kernel)⟩, by decide +kernel⟩
theorem cV_X7_40 : CVw RX7 40 RX7 yX7_next cX7_next 1 none 0 := ⟨⟨List.mem_of_getElem? (i := 374) (by decide +kernel), List.mem_of_getElem? (i := 376) (by decide +kernel), List.mem_of_getElem? (i := 0) (by decide +kernel), List.mem_of_getElem? (i := 43) (by decide +kernel), List.mem_of_getElem? (i := 377) (by decide +kernel)⟩, by decide +kernel⟩
theorem cV_X7_46 : CVw RX7 46 RX7 yX7_readPhone cX7_readPhone 3 (some .boolean) 1 := ⟨⟨List.mem_of_getElem? (i := 391) (by decide +kernel), List.mem_of_getElem? (i := 393) (by decide +kernel), List.mem_of_getElem? (i := 2) (by decide +kernel), List.mem_of_getElem? (i := 43) (by decide +kernel), List.mem_of_getElem? (i := 394) (by decide +kernel)⟩, by decide +kernel⟩
theorem cV_X7_50 : CVw RX7 50 RX7 yX7_readHoles cX7_readHoles 2 (some .boolean) 1 := ⟨⟨List.mem_of_getElem? (i := 406) (by decide +kernel), List.mem_of_getElem? (i := 408) (by decide +kernel), List.mem_of_getElem? (i := 5) (by decide +kernel), List.mem_of_getElem? (i := 43) (by decide +kernel), List.mem_of_getElem? (i := 409) (by decide +kernel)⟩, by decide +kernel⟩
theorem cV_X7_56 : CVw RX7 56 RX7 yX7_readCall cX7_readCall 3 (some .boolean) 1 := ⟨⟨List.mem_of_getElem? (i := 410) (by decide +kernel), List.mem_of_getElem? (i := 412) (by decide +kernel), List.mem_of_getElem? (i := 6) (by decide +kernel), List.mem_of_getElem? (i := 43) (by decide +kernel), List.mem_of_getElem? (i := 413) (by decide +kernel)⟩, by decide +kernel⟩
theorem cV_X7_62 : CVw RX7 62 RX7 yX7_readDark cX7_readDark 3 (some .boolean) 1 := ⟨⟨List.mem_of_getElem? (i := 414) (by decide +kernel), List.mem_of_getElem? (i := 416) (by decide +kernel), List.mem_of_getElem? (i := 7) (by decide +kernel), List.mem_of_getElem? (i := 43) (by decide +kernel), List.mem_of_getElem? (i := 417) (by decide +kernel)⟩, by decide +kernel⟩
theorem cV_X7_65 : CVw RX7 65 RX7 yX7_nextIsNumber cX7_nextIsNumber 3 (some .boolean) 2 := ⟨⟨List.mem_of_getElem? (i := 395) (by decide +kernel), List.mem_of_getElem? (i := 397) (by decide +kernel), List.mem_of_getElem? (i := 3) (by decide +kernel), List.mem_of_getElem? (i := 43) (by decide +kernel), List.mem_of_getElem? (i := 398) (by decide +kernel)⟩, by decide +kernel⟩
theorem cV_X7_78 : CVw RX7 78 RX7 yX7_nextIsItemEnd cX7_nextIsItemEnd 1 (some .boolean) 0 := ⟨⟨List.mem_of_getElem? (i := 402) (by decide +kernel), List.mem_of_getElem? (i := 404) (by decide +kernel), List.mem_of_getElem? (i := 4) (by decide +kernel), List.mem_of_getElem? (i := 43) (by decide +kernel), List.mem_of_getElem? (i := 405) (by decide +kernel)⟩, by decide +kernel⟩
theorem cV_X7_100 : CSn RX7 100 "OneSocket" yX11_isWithin cX11_isWithin 3 (some .boolean) 3 := ⟨⟨List.mem_of_getElem? (i := 399) (by decide +kernel), List.mem_of_getElem? (i := 400) (by decide +kernel), List.mem_of_getElem? (i := 41) (by decide +kernel), List.mem_of_getElem? (i := 401) (by decide +kernel)⟩, by decide +kernel⟩
theorem cV_X7_104 : CSw RX7 104 yX7_isDigit cX7_isDigit 1 (some .boolean) 1 := ⟨⟨List.mem_of_getElem? (i := 378) (by decide +kernel), List.mem_of_getElem? (i := 379) (by decide +kernel), List.mem_of_getElem? (i := 43) (by decide +kernel), List.mem_of_getElem? (i := 380) (by decide +kernel)⟩, by decide +kernel⟩
theorem cV_X7_108 : CVw RX7 108 RX7 yX7_scanNumber cX7_scanNumber 2 none 0 := ⟨⟨List.mem_of_getElem? (i := 381) (by decide +kernel), List.mem_of_getElem? (i := 383) (by decide +kernel), List.mem_of_getElem? (i := 1) (by decide +kernel), List.mem_of_getElem? (i := 43) (by decide +kernel), List.mem_of_getElem? (i := 384) (by decide +kernel)⟩, by decide +kernel⟩
theorem cV_X7_111 : CSw RX7 111 yX7_isSign cX7_isSign 1 (some .boolean) 1 := ⟨⟨List.mem_of_getElem? (i := 388) (by decide +kernel), List.mem_of_getElem? (i := 389) (by decide +kernel), List.mem_of_getElem? (i := 43) (by decide +kernel), List.mem_of_getElem? (i := 390) (by decide +kernel)⟩, by decide +kernel⟩
theorem cV_X8_15 : CVw RX8 15 RX9 yX9_worth cX9_worth 3 (some .int) 2 := ⟨⟨List.mem_of_getElem? (i := 680) (by decide +kernel), List.mem_of_getElem? (i := 649) (by decide +kernel), List.mem_of_getElem? (i := 650) (by decide +kernel), List.mem_of_getElem? (i := 47) (by decide +kernel), List.mem_of_getElem? (i := 681) (by decide +kernel)⟩, by decide +kernel⟩
theorem cV_X10_55 : CSw RX10 55 yJ6_bitCount_0f7a4 cJ6_bitCount_0f7a4 1 (some .int) 1 := ⟨⟨List.mem_of_getElem? (i := 462) (by decide +kernel), List.mem_of_getElem? (i := 463) (by decide +kernel), List.mem_of_getElem? (i := 56) (by decide +kernel), List.mem_of_getElem? (i := 464) (by decide +kernel)⟩, by decide +kernel⟩
theorem cV_X10_61 : CVw RX10 61 RX10 yX10_isCallOf cX10_isCallOf 4 (some .boolean) 3 := ⟨⟨List.mem_of_getElem? (i := 491) (by decide +kernel), List.mem_of_getElem? (i := 492) (by decide +kernel), List.mem_of_getElem? (i := 493) (by decide +kernel), List.mem_of_getElem? (i := 42) (by decide +kernel), List.mem_of_getElem? (i := 494) (by decide +kernel)⟩, by decide +kernel⟩
theorem cV_X10_74 : CVw RX10 74 RX10 yX10_leftByCalls cX10_leftByCalls 6 (some .int) 3 := ⟨⟨List.mem_of_getElem? (i := 500) (by decide +kernel), List.mem_of_getElem? (i := 501) (by decide +kernel), List.mem_of_getElem? (i := 502) (by decide +kernel), List.mem_of_getElem? (i := 42) (by decide +kernel), List.mem_of_getElem? (i := 503) (by decide +kernel)⟩, by decide +kernel⟩
theorem cV_X10_78 : CVw RX10 78 RX10 yX10_isDark cX10_isDark 3 (some .boolean) 1 := ⟨⟨List.mem_of_getElem? (i := 504) (by decide +kernel), List.mem_of_getElem? (i := 451) (by decide +kernel), List.mem_of_getElem? (i := 452) (by decide +kernel), List.mem_of_getElem? (i := 42) (by decide +kernel), List.mem_of_getElem? (i := 453) (by decide +kernel)⟩, by decide +kernel⟩
theorem cV_X10_82 : CVw RX10 82 RX10 yX10_filled cX10_filled 4 (some .int) 2 := ⟨⟨List.mem_of_getElem? (i := 505) (by decide +kernel), List.mem_of_getElem? (i := 506) (by decide +kernel), List.mem_of_getElem? (i := 507) (by decide +kernel), List.mem_of_getElem? (i := 42) (by decide +kernel), List.mem_of_getElem? (i := 508) (by decide +kernel)⟩, by decide +kernel⟩
theorem cV_X10_85 : CVw RX10 85 RX10 yX10_drained cX10_drained 3 (some .int) 2 := ⟨⟨List.mem_of_getElem? (i := 513) (by decide +kernel), List.mem_of_getElem? (i := 514) (by decide +kernel), List.mem_of_getElem? (i := 515) (by decide +kernel), List.mem_of_getElem? (i := 42) (by decide +kernel), List.mem_of_getElem? (i := 516) (by decide +kernel)⟩, by decide +kernel⟩
theorem cV_L_13 : CVw RL 13 RX11 yX11_type cX11_type 2 (some .int) 1 := ⟨⟨List.mem_of_getElem? (i := 350) (by decide +kernel), List.mem_of_getElem? (i := 351) (by decide +kernel), List.mem_of_getElem? (i := 352) (by decide +kernel), List.mem_of_getElem? (i := 41) (by decide +kernel), List.mem_of_getElem? (i := 353) (by decide +kernel)⟩, by decide +kernel⟩
theorem cV_L_17 : CVw RL 17 RX12 yX12_type cX12_type 2 (some .int) 1 := ⟨⟨List.mem_of_getElem? (i := 819) (by decide +kernel), List.mem_of_getElem? (i := 820) (by decide +kernel), List.mem_of_getElem? (i := 821) (by decide +kernel), List.mem_of_getElem? (i := 53) (by decide +kernel), List.mem_of_getElem? (i := 822) (by decide +kernel)⟩, by decide +kernel⟩
theorem cV_L_18 : CVw RL 18 RX11 yX11_clear cX11_clear 2 (some .int) 0 := ⟨⟨List.mem_of_getElem? (i := 358) (by decide +kernel), List.mem_of_getElem? (i := 359) (by decide +kernel), List.mem_of_getElem? (i := 360) (by decide +kernel), List.mem_of_getElem? (i := 41) (by decide +kernel), List.mem_of_getElem? (i := 361) (by decide +kernel)⟩, by decide +kernel⟩
theorem cV_L_22 : CVw RL 22 RX12 yX12_clear cX12_clear 2 (some .int) 0 := ⟨⟨List.mem_of_getElem? (i := 826) (by decide +kernel), List.mem_of_getElem? (i := 827) (by decide +kernel), List.mem_of_getElem? (i := 828) (by decide +kernel), List.mem_of_getElem? (i := 53) (by decide +kernel), List.mem_of_getElem? (i := 829) (by decide +kernel)⟩, by decide +kernel⟩
theorem cV_L_23 : CVw RL 23 RX11 yX11_room cX11_room 3 (some .int) 0 := ⟨⟨List.mem_of_getElem? (i := 362) (by decide +kernel), List.mem_of_getElem? (i := 363) (by decide +kernel), List.mem_of_getElem? (i := 364) (by decide +kernel), List.mem_of_getElem? (i := 41) (by decide +kernel), List.mem_of_getElem? (i := 365) (by decide +kernel)⟩, by decide +kernel⟩
theorem cV_L_26 : CVw RL 26 RX12 yX12_room cX12_room 3 (some .int) 0 := ⟨⟨List.mem_of_getElem? (i := 830) (by decide +kernel), List.mem_of_getElem? (i := 831) (by decide +kernel), List.mem_of_getElem? (i := 832) (by decide +kernel), List.mem_of_getElem? (i := 53) (by decide +kernel), List.mem_of_getElem? (i := 833) (by decide +kernel)⟩, by decide +kernel⟩
theorem cV_L_27 : CVw RL 27 RX11 yX11_phone cX11_phone 3 (some .int) 2 := ⟨⟨List.mem_of_getElem? (i := 429) (by decide +kernel), List.mem_of_getElem? (i := 430) (by decide +kernel), List.mem_of_getElem? (i := 431) (by decide +kernel), List.mem_of_getElem? (i := 41) (by decide +kernel), List.mem_of_getElem? (i := 432) (by decide +kernel)⟩, by decide +kernel⟩
theorem cV_L_31 : CVw RL 31 RX12 yX12_phone cX12_phone 3 (some .int) 2 := ⟨⟨List.mem_of_getElem? (i := 866) (by decide +kernel), List.mem_of_getElem? (i := 867) (by decide +kernel), List.mem_of_getElem? (i := 868) (by decide +kernel), List.mem_of_getElem? (i := 53) (by decide +kernel), List.mem_of_getElem? (i := 869) (by decide +kernel)⟩, by decide +kernel⟩
theorem cV_L_32 : CVw RL 32 RX11 yX11_call cX11_call 3 (some .int) 2 := ⟨⟨List.mem_of_getElem? (i := 442) (by decide +kernel), List.mem_of_getElem? (i := 443) (by decide +kernel), List.mem_of_getElem? (i := 444) (by decide +kernel), List.mem_of_getElem? (i := 41) (by decide +kernel), List.mem_of_getElem? (i := 445) (by decide +kernel)⟩, by decide +kernel⟩
theorem cV_L_35 : CVw RL 35 RX12 yX12_call cX12_call 3 (some .int) 2 := ⟨⟨List.mem_of_getElem? (i := 874) (by decide +kernel), List.mem_of_getElem? (i := 875) (by decide +kernel), List.mem_of_getElem? (i := 876) (by decide +kernel), List.mem_of_getElem? (i := 53) (by decide +kernel), List.mem_of_getElem? (i := 877) (by decide +kernel)⟩, by decide +kernel⟩
theorem cV_L_36 : CVw RL 36 RX11 yX11_dark cX11_dark 2 (some .int) 1 := ⟨⟨List.mem_of_getElem? (i := 446) (by decide +kernel), List.mem_of_getElem? (i := 447) (by decide +kernel), List.mem_of_getElem? (i := 448) (by decide +kernel), List.mem_of_getElem? (i := 41) (by decide +kernel), List.mem_of_getElem? (i := 449) (by decide +kernel)⟩, by decide +kernel⟩
theorem cV_L_39 : CVw RL 39 RX12 yX12_dark cX12_dark 2 (some .int) 1 := ⟨⟨List.mem_of_getElem? (i := 878) (by decide +kernel), List.mem_of_getElem? (i := 879) (by decide +kernel), List.mem_of_getElem? (i := 880) (by decide +kernel), List.mem_of_getElem? (i := 53) (by decide +kernel), List.mem_of_getElem? (i := 881) (by decide +kernel)⟩, by decide +kernel⟩
theorem cV_L_40 : CVw RL 40 RX11 yX11_puts cX11_puts 2 (some .int) 1 := ⟨⟨List.mem_of_getElem? (i := 454) (by decide +kernel), List.mem_of_getElem? (i := 455) (by decide +kernel), List.mem_of_getElem? (i := 456) (by decide +kernel), List.mem_of_getElem? (i := 41) (by decide +kernel), List.mem_of_getElem? (i := 457) (by decide +kernel)⟩, by decide +kernel⟩
theorem cV_L_43 : CVw RL 43 RX12 yX12_puts cX12_puts 2 (some .int) 1 := ⟨⟨List.mem_of_getElem? (i := 886) (by decide +kernel), List.mem_of_getElem? (i := 887) (by decide +kernel), List.mem_of_getElem? (i := 888) (by decide +kernel), List.mem_of_getElem? (i := 53) (by decide +kernel), List.mem_of_getElem? (i := 889) (by decide +kernel)⟩, by decide +kernel⟩
theorem cV_L_44 : CVw RL 44 RX11 yX11_turn cX11_turn 1 (some .int) 0 := ⟨⟨List.mem_of_getElem? (i := 478) (by decide +kernel), List.mem_of_getElem? (i := 479) (by decide +kernel), List.mem_of_getElem? (i := 480) (by decide +kernel), List.mem_of_getElem? (i := 41) (by decide +kernel), List.mem_of_getElem? (i := 481) (by decide +kernel)⟩, by decide +kernel⟩
theorem cV_L_47 : CVw RL 47 RX12 yX12_turn cX12_turn 1 (some .int) 0 := ⟨⟨List.mem_of_getElem? (i := 904) (by decide +kernel), List.mem_of_getElem? (i := 905) (by decide +kernel), List.mem_of_getElem? (i := 906) (by decide +kernel), List.mem_of_getElem? (i := 53) (by decide +kernel), List.mem_of_getElem? (i := 907) (by decide +kernel)⟩, by decide +kernel⟩
theorem cV_L_48 : CVw RL 48 RX11 yX11_lends cX11_lends 3 (some .int) 2 := ⟨⟨List.mem_of_getElem? (i := 522) (by decide +kernel), List.mem_of_getElem? (i := 523) (by decide +kernel), List.mem_of_getElem? (i := 524) (by decide +kernel), List.mem_of_getElem? (i := 41) (by decide +kernel), List.mem_of_getElem? (i := 525) (by decide +kernel)⟩, by decide +kernel⟩
theorem cV_L_51 : CVw RL 51 RX12 yX12_lends cX12_lends 3 (some .int) 2 := ⟨⟨List.mem_of_getElem? (i := 922) (by decide +kernel), List.mem_of_getElem? (i := 923) (by decide +kernel), List.mem_of_getElem? (i := 924) (by decide +kernel), List.mem_of_getElem? (i := 53) (by decide +kernel), List.mem_of_getElem? (i := 925) (by decide +kernel)⟩, by decide +kernel⟩
theorem cV_L_52 : CVw RL 52 RX11 yX11_undo cX11_undo 1 (some .int) 0 := ⟨⟨List.mem_of_getElem? (i := 526) (by decide +kernel), List.mem_of_getElem? (i := 527) (by decide +kernel), List.mem_of_getElem? (i := 528) (by decide +kernel), List.mem_of_getElem? (i := 41) (by decide +kernel), List.mem_of_getElem? (i := 529) (by decide +kernel)⟩, by decide +kernel⟩
theorem cV_L_55 : CVw RL 55 RX12 yX12_undo cX12_undo 2 (some .int) 0 := ⟨⟨List.mem_of_getElem? (i := 926) (by decide +kernel), List.mem_of_getElem? (i := 927) (by decide +kernel), List.mem_of_getElem? (i := 928) (by decide +kernel), List.mem_of_getElem? (i := 53) (by decide +kernel), List.mem_of_getElem? (i := 929) (by decide +kernel)⟩, by decide +kernel⟩
theorem cV_L_56 : CVw RL 56 RX11 yX11_now cX11_now 2 (some .int) 1 := ⟨⟨List.mem_of_getElem? (i := 538) (by decide +kernel), List.mem_of_getElem? (i := 539) (by decide +kernel), List.mem_of_getElem? (i := 540) (by decide +kernel), List.mem_of_getElem? (i := 41) (by decide +kernel), List.mem_of_getElem? (i := 541) (by decide +kernel)⟩, by decide +kernel⟩
theorem cV_L_59 : CVw RL 59 RX12 yX12_now cX12_now 2 (some .int) 1 := ⟨⟨List.mem_of_getElem? (i := 930) (by decide +kernel), List.mem_of_getElem? (i := 931) (by decide +kernel), List.mem_of_getElem? (i := 932) (by decide +kernel), List.mem_of_getElem? (i := 53) (by decide +kernel), List.mem_of_getElem? (i := 933) (by decide +kernel)⟩, by decide +kernel⟩
theorem cV_L_60 : CVw RL 60 RX11 yX11_plan cX11_plan 3 (some .int) 2 := ⟨⟨List.mem_of_getElem? (i := 552) (by decide +kernel), List.mem_of_getElem? (i := 553) (by decide +kernel), List.mem_of_getElem? (i := 554) (by decide +kernel), List.mem_of_getElem? (i := 41) (by decide +kernel), List.mem_of_getElem? (i := 555) (by decide +kernel)⟩, by decide +kernel⟩
theorem cV_L_63 : CVw RL 63 RX12 yX12_plan cX12_plan 3 (some .int) 2 := ⟨⟨List.mem_of_getElem? (i := 942) (by decide +kernel), List.mem_of_getElem? (i := 943) (by decide +kernel), List.mem_of_getElem? (i := 944) (by decide +kernel), List.mem_of_getElem? (i := 53) (by decide +kernel), List.mem_of_getElem? (i := 945) (by decide +kernel)⟩, by decide +kernel⟩
theorem cV_L_64 : CVw RL 64 RX11 yX11_fullBy cX11_fullBy 5 (some .int) 2 := ⟨⟨List.mem_of_getElem? (i := 594) (by decide +kernel), List.mem_of_getElem? (i := 595) (by decide +kernel), List.mem_of_getElem? (i := 596) (by decide +kernel), List.mem_of_getElem? (i := 41) (by decide +kernel), List.mem_of_getElem? (i := 597) (by decide +kernel)⟩, by decide +kernel⟩
theorem cV_L_67 : CVw RL 67 RX12 yX12_fullBy cX12_fullBy 4 (some .int) 2 := ⟨⟨List.mem_of_getElem? (i := 965) (by decide +kernel), List.mem_of_getElem? (i := 966) (by decide +kernel), List.mem_of_getElem? (i := 967) (by decide +kernel), List.mem_of_getElem? (i := 53) (by decide +kernel), List.mem_of_getElem? (i := 968) (by decide +kernel)⟩, by decide +kernel⟩
theorem cV_L_68 : CVw RL 68 RX11 yX11_latest cX11_latest 4 (some .int) 2 := ⟨⟨List.mem_of_getElem? (i := 599) (by decide +kernel), List.mem_of_getElem? (i := 600) (by decide +kernel), List.mem_of_getElem? (i := 601) (by decide +kernel), List.mem_of_getElem? (i := 41) (by decide +kernel), List.mem_of_getElem? (i := 602) (by decide +kernel)⟩, by decide +kernel⟩
theorem cV_L_71 : CVw RL 71 RX12 yX12_latest cX12_latest 4 (some .int) 2 := ⟨⟨List.mem_of_getElem? (i := 969) (by decide +kernel), List.mem_of_getElem? (i := 970) (by decide +kernel), List.mem_of_getElem? (i := 971) (by decide +kernel), List.mem_of_getElem? (i := 53) (by decide +kernel), List.mem_of_getElem? (i := 972) (by decide +kernel)⟩, by decide +kernel⟩
theorem cV_L_72 : CVw RL 72 RX11 yX11_says cX11_says 5 (some .int) 4 := ⟨⟨List.mem_of_getElem? (i := 608) (by decide +kernel), List.mem_of_getElem? (i := 609) (by decide +kernel), List.mem_of_getElem? (i := 610) (by decide +kernel), List.mem_of_getElem? (i := 41) (by decide +kernel), List.mem_of_getElem? (i := 611) (by decide +kernel)⟩, by decide +kernel⟩
theorem cV_L_76 : CVw RL 76 RX12 yX12_says cX12_says 6 (some .int) 4 := ⟨⟨List.mem_of_getElem? (i := 981) (by decide +kernel), List.mem_of_getElem? (i := 982) (by decide +kernel), List.mem_of_getElem? (i := 983) (by decide +kernel), List.mem_of_getElem? (i := 53) (by decide +kernel), List.mem_of_getElem? (i := 984) (by decide +kernel)⟩, by decide +kernel⟩
theorem cV_L_77 : CVw RL 77 RX11 yX11_forget cX11_forget 2 (some .int) 0 := ⟨⟨List.mem_of_getElem? (i := 612) (by decide +kernel), List.mem_of_getElem? (i := 613) (by decide +kernel), List.mem_of_getElem? (i := 614) (by decide +kernel), List.mem_of_getElem? (i := 41) (by decide +kernel), List.mem_of_getElem? (i := 615) (by decide +kernel)⟩, by decide +kernel⟩
theorem cV_L_80 : CVw RL 80 RX12 yX12_forget cX12_forget 2 (some .int) 0 := ⟨⟨List.mem_of_getElem? (i := 985) (by decide +kernel), List.mem_of_getElem? (i := 986) (by decide +kernel), List.mem_of_getElem? (i := 987) (by decide +kernel), List.mem_of_getElem? (i := 53) (by decide +kernel), List.mem_of_getElem? (i := 988) (by decide +kernel)⟩, by decide +kernel⟩
theorem cV_L_81 : CVw RL 81 RX11 yX11_could cX11_could 7 (some .int) 2 := ⟨⟨List.mem_of_getElem? (i := 616) (by decide +kernel), List.mem_of_getElem? (i := 617) (by decide +kernel), List.mem_of_getElem? (i := 618) (by decide +kernel), List.mem_of_getElem? (i := 41) (by decide +kernel), List.mem_of_getElem? (i := 619) (by decide +kernel)⟩, by decide +kernel⟩
theorem cV_L_84 : CVw RL 84 RX12 yX12_could cX12_could 7 (some .int) 2 := ⟨⟨List.mem_of_getElem? (i := 989) (by decide +kernel), List.mem_of_getElem? (i := 990) (by decide +kernel), List.mem_of_getElem? (i := 991) (by decide +kernel), List.mem_of_getElem? (i := 53) (by decide +kernel), List.mem_of_getElem? (i := 992) (by decide +kernel)⟩, by decide +kernel⟩
theorem cV_L_85 : CVw RL 85 RX11 yX11_liars cX11_liars 3 (some .int) 0 := ⟨⟨List.mem_of_getElem? (i := 625) (by decide +kernel), List.mem_of_getElem? (i := 626) (by decide +kernel), List.mem_of_getElem? (i := 627) (by decide +kernel), List.mem_of_getElem? (i := 41) (by decide +kernel), List.mem_of_getElem? (i := 628) (by decide +kernel)⟩, by decide +kernel⟩
theorem cV_L_88 : CVw RL 88 RX12 yX12_liars cX12_liars 4 (some .int) 0 := ⟨⟨List.mem_of_getElem? (i := 997) (by decide +kernel), List.mem_of_getElem? (i := 998) (by decide +kernel), List.mem_of_getElem? (i := 999) (by decide +kernel), List.mem_of_getElem? (i := 53) (by decide +kernel), List.mem_of_getElem? (i := 1000) (by decide +kernel)⟩, by decide +kernel⟩
theorem cV_L_89 : CVw RL 89 RX11 yX11_odds cX11_odds 12 (some .long) 5 := ⟨⟨List.mem_of_getElem? (i := 629) (by decide +kernel), List.mem_of_getElem? (i := 630) (by decide +kernel), List.mem_of_getElem? (i := 631) (by decide +kernel), List.mem_of_getElem? (i := 41) (by decide +kernel), List.mem_of_getElem? (i := 632) (by decide +kernel)⟩, by decide +kernel⟩
theorem cV_L_93 : CVw RL 93 RX12 yX12_odds cX12_odds 12 (some .long) 5 := ⟨⟨List.mem_of_getElem? (i := 1001) (by decide +kernel), List.mem_of_getElem? (i := 1002) (by decide +kernel), List.mem_of_getElem? (i := 1003) (by decide +kernel), List.mem_of_getElem? (i := 53) (by decide +kernel), List.mem_of_getElem? (i := 1004) (by decide +kernel)⟩, by decide +kernel⟩
theorem cV_L_94 : CVw RL 94 RX11 yX11_rate cX11_rate 4 (some .int) 2 := ⟨⟨List.mem_of_getElem? (i := 643) (by decide +kernel), List.mem_of_getElem? (i := 644) (by decide +kernel), List.mem_of_getElem? (i := 645) (by decide +kernel), List.mem_of_getElem? (i := 41) (by decide +kernel), List.mem_of_getElem? (i := 646) (by decide +kernel)⟩, by decide +kernel⟩
theorem cV_L_97 : CVw RL 97 RX12 yX12_rate cX12_rate 6 (some .int) 2 := ⟨⟨List.mem_of_getElem? (i := 1014) (by decide +kernel), List.mem_of_getElem? (i := 1015) (by decide +kernel), List.mem_of_getElem? (i := 1016) (by decide +kernel), List.mem_of_getElem? (i := 53) (by decide +kernel), List.mem_of_getElem? (i := 1017) (by decide +kernel)⟩, by decide +kernel⟩
theorem cV_L_98 : CVw RL 98 RX11 yX11_keep cX11_keep 2 (some .int) 1 := ⟨⟨List.mem_of_getElem? (i := 682) (by decide +kernel), List.mem_of_getElem? (i := 683) (by decide +kernel), List.mem_of_getElem? (i := 684) (by decide +kernel), List.mem_of_getElem? (i := 41) (by decide +kernel), List.mem_of_getElem? (i := 685) (by decide +kernel)⟩, by decide +kernel⟩
theorem cV_L_101 : CVw RL 101 RX12 yX12_keep cX12_keep 3 (some .int) 1 := ⟨⟨List.mem_of_getElem? (i := 1024) (by decide +kernel), List.mem_of_getElem? (i := 1025) (by decide +kernel), List.mem_of_getElem? (i := 1026) (by decide +kernel), List.mem_of_getElem? (i := 53) (by decide +kernel), List.mem_of_getElem? (i := 1027) (by decide +kernel)⟩, by decide +kernel⟩
theorem cV_L_102 : CVw RL 102 RX11 yX11_back cX11_back 2 (some .int) 1 := ⟨⟨List.mem_of_getElem? (i := 687) (by decide +kernel), List.mem_of_getElem? (i := 688) (by decide +kernel), List.mem_of_getElem? (i := 689) (by decide +kernel), List.mem_of_getElem? (i := 41) (by decide +kernel), List.mem_of_getElem? (i := 690) (by decide +kernel)⟩, by decide +kernel⟩
theorem cV_L_105 : CVw RL 105 RX12 yX12_back cX12_back 3 (some .int) 1 := ⟨⟨List.mem_of_getElem? (i := 1028) (by decide +kernel), List.mem_of_getElem? (i := 1029) (by decide +kernel), List.mem_of_getElem? (i := 1030) (by decide +kernel), List.mem_of_getElem? (i := 53) (by decide +kernel), List.mem_of_getElem? (i := 1031) (by decide +kernel)⟩, by decide +kernel⟩
theorem cV_L_106 : CVw RL 106 RX11 yX11_count cX11_count 2 (some .int) 1 := ⟨⟨List.mem_of_getElem? (i := 692) (by decide +kernel), List.mem_of_getElem? (i := 693) (by decide +kernel), List.mem_of_getElem? (i := 694) (by decide +kernel), List.mem_of_getElem? (i := 41) (by decide +kernel), List.mem_of_getElem? (i := 695) (by decide +kernel)⟩, by decide +kernel⟩
theorem cV_L_109 : CVw RL 109 RX12 yX12_count cX12_count 2 (some .int) 1 := ⟨⟨List.mem_of_getElem? (i := 1032) (by decide +kernel), List.mem_of_getElem? (i := 1033) (by decide +kernel), List.mem_of_getElem? (i := 1034) (by decide +kernel), List.mem_of_getElem? (i := 53) (by decide +kernel), List.mem_of_getElem? (i := 1035) (by decide +kernel)⟩, by decide +kernel⟩
theorem cV_L_110 : CVw RL 110 RX11 yX11_trace cX11_trace 1 (some .long) 0 := ⟨⟨List.mem_of_getElem? (i := 696) (by decide +kernel), List.mem_of_getElem? (i := 697) (by decide +kernel), List.mem_of_getElem? (i := 698) (by decide +kernel), List.mem_of_getElem? (i := 41) (by decide +kernel), List.mem_of_getElem? (i := 699) (by decide +kernel)⟩, by decide +kernel⟩
theorem cV_L_114 : CVw RL 114 RX12 yX12_trace cX12_trace 1 (some .long) 0 := ⟨⟨List.mem_of_getElem? (i := 1036) (by decide +kernel), List.mem_of_getElem? (i := 1037) (by decide +kernel), List.mem_of_getElem? (i := 1038) (by decide +kernel), List.mem_of_getElem? (i := 53) (by decide +kernel), List.mem_of_getElem? (i := 1039) (by decide +kernel)⟩, by decide +kernel⟩
theorem cV_X12_64 : CSw RX12 64 yX12_in cX12_in 3 (some .boolean) 3 := ⟨⟨List.mem_of_getElem? (i := 823) (by decide +kernel), List.mem_of_getElem? (i := 824) (by decide +kernel), List.mem_of_getElem? (i := 53) (by decide +kernel), List.mem_of_getElem? (i := 825) (by decide +kernel)⟩, by decide +kernel⟩
theorem cV_X12_74 : CVw RX12 74 RX12 yX12_letterAt cX12_letterAt 2 (some .int) 1 := ⟨⟨List.mem_of_getElem? (i := 838) (by decide +kernel), List.mem_of_getElem? (i := 840) (by decide +kernel), List.mem_of_getElem? (i := 17) (by decide +kernel), List.mem_of_getElem? (i := 53) (by decide +kernel), List.mem_of_getElem? (i := 841) (by decide +kernel)⟩, by decide +kernel⟩
theorem cV_X12_90 : CVw RX12 90 RX12 yX12_isWell cX12_isWell 1 (some .boolean) 0 := ⟨⟨List.mem_of_getElem? (i := 842) (by decide +kernel), List.mem_of_getElem? (i := 844) (by decide +kernel), List.mem_of_getElem? (i := 18) (by decide +kernel), List.mem_of_getElem? (i := 53) (by decide +kernel), List.mem_of_getElem? (i := 845) (by decide +kernel)⟩, by decide +kernel⟩
theorem cV_X12_94 : CVw RX12 94 RX12 yX12_advances cX12_advances 2 none 0 := ⟨⟨List.mem_of_getElem? (i := 834) (by decide +kernel), List.mem_of_getElem? (i := 836) (by decide +kernel), List.mem_of_getElem? (i := 16) (by decide +kernel), List.mem_of_getElem? (i := 53) (by decide +kernel), List.mem_of_getElem? (i := 837) (by decide +kernel)⟩, by decide +kernel⟩
theorem cV_X12_97 : CVw RX12 97 RX12 yX12_takes cX12_takes 3 (some .int) 1 := ⟨⟨List.mem_of_getElem? (i := 850) (by decide +kernel), List.mem_of_getElem? (i := 852) (by decide +kernel), List.mem_of_getElem? (i := 20) (by decide +kernel), List.mem_of_getElem? (i := 53) (by decide +kernel), List.mem_of_getElem? (i := 853) (by decide +kernel)⟩, by decide +kernel⟩
theorem cV_X12_113 : CVw RX12 113 RX12 yX12_number cX12_number 3 (some .int) 2 := ⟨⟨List.mem_of_getElem? (i := 858) (by decide +kernel), List.mem_of_getElem? (i := 860) (by decide +kernel), List.mem_of_getElem? (i := 22) (by decide +kernel), List.mem_of_getElem? (i := 53) (by decide +kernel), List.mem_of_getElem? (i := 861) (by decide +kernel)⟩, by decide +kernel⟩
theorem cV_X12_117 : CVw RX12 117 RX12 yX12_mayBegin cX12_mayBegin 1 (some .boolean) 0 := ⟨⟨List.mem_of_getElem? (i := 846) (by decide +kernel), List.mem_of_getElem? (i := 848) (by decide +kernel), List.mem_of_getElem? (i := 19) (by decide +kernel), List.mem_of_getElem? (i := 53) (by decide +kernel), List.mem_of_getElem? (i := 849) (by decide +kernel)⟩, by decide +kernel⟩
theorem cV_X12_120 : CVw RX12 120 RX12 yX12_readsItem cX12_readsItem 3 none 1 := ⟨⟨List.mem_of_getElem? (i := 854) (by decide +kernel), List.mem_of_getElem? (i := 856) (by decide +kernel), List.mem_of_getElem? (i := 21) (by decide +kernel), List.mem_of_getElem? (i := 53) (by decide +kernel), List.mem_of_getElem? (i := 857) (by decide +kernel)⟩, by decide +kernel⟩
theorem cV_X12_124 : CVw RX12 124 RX12 yX12_settles cX12_settles 2 none 0 := ⟨⟨List.mem_of_getElem? (i := 862) (by decide +kernel), List.mem_of_getElem? (i := 864) (by decide +kernel), List.mem_of_getElem? (i := 23) (by decide +kernel), List.mem_of_getElem? (i := 53) (by decide +kernel), List.mem_of_getElem? (i := 865) (by decide +kernel)⟩, by decide +kernel⟩
theorem cV_X12_142 : CVw RX12 142 RX12 yX12_isPhone cX12_isPhone 2 (some .boolean) 1 := ⟨⟨List.mem_of_getElem? (i := 870) (by decide +kernel), List.mem_of_getElem? (i := 872) (by decide +kernel), List.mem_of_getElem? (i := 24) (by decide +kernel), List.mem_of_getElem? (i := 53) (by decide +kernel), List.mem_of_getElem? (i := 873) (by decide +kernel)⟩, by decide +kernel⟩
theorem cV_X12_146 : CVw RX12 146 RX12 yX12_isDark cX12_isDark 4 (some .boolean) 1 := ⟨⟨List.mem_of_getElem? (i := 882) (by decide +kernel), List.mem_of_getElem? (i := 884) (by decide +kernel), List.mem_of_getElem? (i := 25) (by decide +kernel), List.mem_of_getElem? (i := 53) (by decide +kernel), List.mem_of_getElem? (i := 885) (by decide +kernel)⟩, by decide +kernel⟩
theorem cV_X12_149 : CSw RX12 149 yX12_filled cX12_filled 4 (some .int) 2 := ⟨⟨List.mem_of_getElem? (i := 912) (by decide +kernel), List.mem_of_getElem? (i := 913) (by decide +kernel), List.mem_of_getElem? (i := 53) (by decide +kernel), List.mem_of_getElem? (i := 914) (by decide +kernel)⟩, by decide +kernel⟩
theorem cV_X12_152 : CSw RX12 152 yX12_lower cX12_lower 2 (some .int) 2 := ⟨⟨List.mem_of_getElem? (i := 915) (by decide +kernel), List.mem_of_getElem? (i := 916) (by decide +kernel), List.mem_of_getElem? (i := 53) (by decide +kernel), List.mem_of_getElem? (i := 917) (by decide +kernel)⟩, by decide +kernel⟩
theorem cV_X12_155 : CSw RX12 155 yX12_ones cX12_ones 3 (some .int) 1 := ⟨⟨List.mem_of_getElem? (i := 894) (by decide +kernel), List.mem_of_getElem? (i := 895) (by decide +kernel), List.mem_of_getElem? (i := 53) (by decide +kernel), List.mem_of_getElem? (i := 896) (by decide +kernel)⟩, by decide +kernel⟩
theorem cV_X12_158 : CVw RX12 158 RX12 yX12_isSet cX12_isSet 2 (some .boolean) 1 := ⟨⟨List.mem_of_getElem? (i := 890) (by decide +kernel), List.mem_of_getElem? (i := 892) (by decide +kernel), List.mem_of_getElem? (i := 26) (by decide +kernel), List.mem_of_getElem? (i := 53) (by decide +kernel), List.mem_of_getElem? (i := 893) (by decide +kernel)⟩, by decide +kernel⟩
theorem cV_X12_161 : CVw RX12 161 RX12 yX12_notes cX12_notes 2 none 0 := ⟨⟨List.mem_of_getElem? (i := 897) (by decide +kernel), List.mem_of_getElem? (i := 899) (by decide +kernel), List.mem_of_getElem? (i := 27) (by decide +kernel), List.mem_of_getElem? (i := 53) (by decide +kernel), List.mem_of_getElem? (i := 900) (by decide +kernel)⟩, by decide +kernel⟩
theorem cV_X12_164 : CSw RX12 164 yX12_sets cX12_sets 2 none 2 := ⟨⟨List.mem_of_getElem? (i := 901) (by decide +kernel), List.mem_of_getElem? (i := 902) (by decide +kernel), List.mem_of_getElem? (i := 53) (by decide +kernel), List.mem_of_getElem? (i := 903) (by decide +kernel)⟩, by decide +kernel⟩
theorem cV_X12_168 : CVw RX12 168 RX12 yX12_goes cX12_goes 5 none 1 := ⟨⟨List.mem_of_getElem? (i := 908) (by decide +kernel), List.mem_of_getElem? (i := 910) (by decide +kernel), List.mem_of_getElem? (i := 28) (by decide +kernel), List.mem_of_getElem? (i := 53) (by decide +kernel), List.mem_of_getElem? (i := 911) (by decide +kernel)⟩, by decide +kernel⟩
theorem cV_X12_172 : CVw RX12 172 RX12 yX12_outOnes cX12_outOnes 4 (some .int) 1 := ⟨⟨List.mem_of_getElem? (i := 918) (by decide +kernel), List.mem_of_getElem? (i := 920) (by decide +kernel), List.mem_of_getElem? (i := 29) (by decide +kernel), List.mem_of_getElem? (i := 53) (by decide +kernel), List.mem_of_getElem? (i := 921) (by decide +kernel)⟩, by decide +kernel⟩
theorem cV_X12_176 : CVw RX12 176 RX12 yX12_fair cX12_fair 4 (some .int) 0 := ⟨⟨List.mem_of_getElem? (i := 934) (by decide +kernel), List.mem_of_getElem? (i := 936) (by decide +kernel), List.mem_of_getElem? (i := 30) (by decide +kernel), List.mem_of_getElem? (i := 53) (by decide +kernel), List.mem_of_getElem? (i := 937) (by decide +kernel)⟩, by decide +kernel⟩
theorem cV_X12_180 : CVw RX12 180 RX12 yX12_leans cX12_leans 4 (some .int) 0 := ⟨⟨List.mem_of_getElem? (i := 938) (by decide +kernel), List.mem_of_getElem? (i := 940) (by decide +kernel), List.mem_of_getElem? (i := 31) (by decide +kernel), List.mem_of_getElem? (i := 53) (by decide +kernel), List.mem_of_getElem? (i := 941) (by decide +kernel)⟩, by decide +kernel⟩
theorem cV_X12_186 : CSw RX12 186 yX12_power cX12_power 4 (some .int) 2 := ⟨⟨List.mem_of_getElem? (i := 954) (by decide +kernel), List.mem_of_getElem? (i := 955) (by decide +kernel), List.mem_of_getElem? (i := 53) (by decide +kernel), List.mem_of_getElem? (i := 956) (by decide +kernel)⟩, by decide +kernel⟩
theorem cV_X12_189 : CVw RX12 189 RX12 yX12_asNow cX12_asNow 2 none 0 := ⟨⟨List.mem_of_getElem? (i := 961) (by decide +kernel), List.mem_of_getElem? (i := 963) (by decide +kernel), List.mem_of_getElem? (i := 35) (by decide +kernel), List.mem_of_getElem? (i := 53) (by decide +kernel), List.mem_of_getElem? (i := 964) (by decide +kernel)⟩, by decide +kernel⟩
theorem cV_X12_192 : CVw RX12 192 RX12 yX12_choose cX12_choose 2 none 0 := ⟨⟨List.mem_of_getElem? (i := 950) (by decide +kernel), List.mem_of_getElem? (i := 952) (by decide +kernel), List.mem_of_getElem? (i := 33) (by decide +kernel), List.mem_of_getElem? (i := 53) (by decide +kernel), List.mem_of_getElem? (i := 953) (by decide +kernel)⟩, by decide +kernel⟩
theorem cV_X12_195 : CVw RX12 195 RX12 yX12_tries cX12_tries 5 none 2 := ⟨⟨List.mem_of_getElem? (i := 957) (by decide +kernel), List.mem_of_getElem? (i := 959) (by decide +kernel), List.mem_of_getElem? (i := 34) (by decide +kernel), List.mem_of_getElem? (i := 53) (by decide +kernel), List.mem_of_getElem? (i := 960) (by decide +kernel)⟩, by decide +kernel⟩
theorem cV_X12_208 : CVw RX12 208 RX12 yX12_plans cX12_plans 9 none 1 := ⟨⟨List.mem_of_getElem? (i := 946) (by decide +kernel), List.mem_of_getElem? (i := 948) (by decide +kernel), List.mem_of_getElem? (i := 32) (by decide +kernel), List.mem_of_getElem? (i := 53) (by decide +kernel), List.mem_of_getElem? (i := 949) (by decide +kernel)⟩, by decide +kernel⟩
theorem cV_X12_211 : CVw RX12 211 RX12 yX12_missedBy cX12_missedBy 6 (some .int) 2 := ⟨⟨List.mem_of_getElem? (i := 977) (by decide +kernel), List.mem_of_getElem? (i := 979) (by decide +kernel), List.mem_of_getElem? (i := 37) (by decide +kernel), List.mem_of_getElem? (i := 53) (by decide +kernel), List.mem_of_getElem? (i := 980) (by decide +kernel)⟩, by decide +kernel⟩
theorem cV_X12_214 : CVw RX12 214 RX12 yX12_isHeard cX12_isHeard 7 (some .boolean) 3 := ⟨⟨List.mem_of_getElem? (i := 973) (by decide +kernel), List.mem_of_getElem? (i := 975) (by decide +kernel), List.mem_of_getElem? (i := 36) (by decide +kernel), List.mem_of_getElem? (i := 53) (by decide +kernel), List.mem_of_getElem? (i := 976) (by decide +kernel)⟩, by decide +kernel⟩
theorem cV_X12_217 : CVw RX12 217 RX12 yX12_risen cX12_risen 6 (some .int) 3 := ⟨⟨List.mem_of_getElem? (i := 993) (by decide +kernel), List.mem_of_getElem? (i := 995) (by decide +kernel), List.mem_of_getElem? (i := 38) (by decide +kernel), List.mem_of_getElem? (i := 53) (by decide +kernel), List.mem_of_getElem? (i := 996) (by decide +kernel)⟩, by decide +kernel⟩
theorem cV_X12_223 : CVw RX12 223 RX12 yX12_spreads cX12_spreads 4 none 2 := ⟨⟨List.mem_of_getElem? (i := 1006) (by decide +kernel), List.mem_of_getElem? (i := 1008) (by decide +kernel), List.mem_of_getElem? (i := 39) (by decide +kernel), List.mem_of_getElem? (i := 53) (by decide +kernel), List.mem_of_getElem? (i := 1009) (by decide +kernel)⟩, by decide +kernel⟩
theorem cV_X12_228 : CSw RX12 228 yX12_gcd cX12_gcd 10 (some .long) 2 := ⟨⟨List.mem_of_getElem? (i := 1011) (by decide +kernel), List.mem_of_getElem? (i := 1012) (by decide +kernel), List.mem_of_getElem? (i := 53) (by decide +kernel), List.mem_of_getElem? (i := 1013) (by decide +kernel)⟩, by decide +kernel⟩
theorem wA_X2_27 : Cond.methodLink RX2 27 Lib.Math.min.name ∈ lw_tbl := List.mem_of_getElem? (i := 477) (by decide +kernel)
theorem wA_X4_52 : Cond.methodLink RX4 52 Lib.Math.max.name ∈ lw_tbl := List.mem_of_getElem? (i := 546) (by decide +kernel)
theorem wA_X4_58 : Cond.methodLink RX4 58 Lib.Math.min.name ∈ lw_tbl := List.mem_of_getElem? (i := 547) (by decide +kernel)
theorem wA_X4_61 : Cond.methodLink RX4 61 arraycopyName ∈ lw_tbl := List.mem_of_getElem? (i := 476) (by decide +kernel)
theorem wA_X5_71 : Cond.methodLink RX5 71 Lib.Math.min.name ∈ lw_tbl := List.mem_of_getElem? (i := 566) (by decide +kernel)
theorem wA_X5_88 : Cond.methodLink RX5 88 arraycopyName ∈ lw_tbl := List.mem_of_getElem? (i := 581) (by decide +kernel)
theorem wA_X7_114 : Cond.methodLink RX7 114 Lib.Math.min.name ∈ lw_tbl := List.mem_of_getElem? (i := 385) (by decide +kernel)
theorem wA_X10_49 : Cond.methodLink RX10 49 arraycopyName ∈ lw_tbl := List.mem_of_getElem? (i := 422) (by decide +kernel)
theorem wA_X10_65 : Cond.methodLink RX10 65 Lib.Math.max.name ∈ lw_tbl := List.mem_of_getElem? (i := 509) (by decide +kernel)
theorem wA_X10_71 : Cond.methodLink RX10 71 Lib.Math.min.name ∈ lw_tbl := List.mem_of_getElem? (i := 512) (by decide +kernel)
theorem wA_1 : Cond.native arraycopyName ∈ lw_tbl := List.mem_of_getElem? (i := 424) (by decide +kernel)
theorem wA_2 : Cond.static arraycopyName ∈ lw_tbl := List.mem_of_getElem? (i := 423) (by decide +kernel)
theorem wA_3 : Cond.initialized "java/lang/System" ∈ lw_tbl := List.mem_of_getElem? (i := 55) (by decide +kernel)
theorem wM_max1 : Cond.static Lib.Math.max.name ∈ lw_tbl := List.mem_of_getElem? (i := 510) (by decide +kernel)
theorem wM_max2 : Cond.code Lib.Math.max.name Lib.Math.max.code 2 (some .int) ∈ lw_tbl := List.mem_of_getElem? (i := 511) (by decide +kernel)
theorem wM_min1 : Cond.static Lib.Math.min.name ∈ lw_tbl := List.mem_of_getElem? (i := 386) (by decide +kernel)
theorem wM_min2 : Cond.code Lib.Math.min.name Lib.Math.min.code 2 (some .int) ∈ lw_tbl := List.mem_of_getElem? (i := 387) (by decide +kernel)
theorem wM_i : Cond.initialized "java/lang/Math" ∈ lw_tbl := List.mem_of_getElem? (i := 54) (by decide +kernel)
end
section
/-! the state of either side: its ints, its long, its rows of ints, its rows of longs -/
abbrev Sx : Type := (Nat → Int32) × Int64 × (Nat → Nat → Int32) × (Nat → Nat → Int64)
def sg (σ : Sx) (i : Nat) (v : Int32) : Sx := (upd σ.1 i v, σ.2)
def sl (σ : Sx) (v : Int64) : Sx := (σ.1, v, σ.2.2)
def sr (σ : Sx) (j : Nat) (f : Nat → Int32) : Sx := (σ.1, σ.2.1, va_up σ.2.2.1 j f, σ.2.2.2)
def sm (σ : Sx) (j : Nat) (f : Nat → Int64) : Sx := (σ.1, σ.2.1, σ.2.2.1, va_up σ.2.2.2 j f)
def inb (i : Int32) (n : Nat) : Bool := !(decide (i < 0)) && decide (i.toNatClampNeg < n)
theorem inb_vp {i : Int32} {n : Nat} (h : inb i n = true) : vp_in i n := by
  simp only [inb, Bool.and_eq_true, Bool.not_eq_true', decide_eq_false_iff_not, decide_eq_true_eq] at h
  intro q
  rcases q with q | q
  · exact h.1 q
  · omega
def ldA (Ln : Nat → Nat) (σ : Sx) (j : Nat) (i : Int32) : Option Int32 := if inb i (Ln j) = true then some (σ.2.2.1 j i.toNatClampNeg) else none
def stA (Ln : Nat → Nat) (σ : Sx) (j : Nat) (i x : Int32) : Option Sx := if inb i (Ln j) = true then some (sr σ j (upd (σ.2.2.1 j) i.toNatClampNeg x)) else none
def ldB (Ln : Nat → Nat) (σ : Sx) (j : Nat) (i : Int32) : Option Int64 := if inb i (Ln j) = true then some (σ.2.2.2 j i.toNatClampNeg) else none
def stB (Ln : Nat → Nat) (σ : Sx) (j : Nat) (i : Int32) (x : Int64) : Option Sx := if inb i (Ln j) = true then some (sm σ j (vp_updL (σ.2.2.2 j) i.toNatClampNeg x)) else none
def cpA (Ln : Nat → Nat) (σ : Sx) (i j : Nat) (sp dp n : Int32) : Option Sx := if (i < 47 ∧ j < 47) ∧ (¬ sp < 0 ∧ ¬ dp < 0 ∧ ¬ n < 0) ∧ sp.toNatClampNeg + n.toNatClampNeg ≤ Ln i ∧ dp.toNatClampNeg + n.toNatClampNeg ≤ Ln j then some (sr σ j (va_cpy (σ.2.2.1 i) (σ.2.2.1 j) sp.toNatClampNeg dp.toNatClampNeg n.toNatClampNeg)) else none
def dvI (x y : Int32) : Option Int32 := if y = 0 then none else some (x / y)
def dvL (x y : Int64) : Option Int64 := if y = 0 then none else some (x / y)
def rmI (x y : Int32) : Option Int32 := if y = 0 then none else some (x - x / y * y)
def rmL (x y : Int64) : Option Int64 := if y = 0 then none else some (x - x / y * y)
def rtZ (x : Int32) : Option Int32 := if x = 0 ∨ x = 1 then some x else none
def ixq (i : Int32) (n : Nat) : Option Nat := if inb i n = true then some i.toNatClampNeg else none
def FU : Nat := 100000
theorem bd {α β : Type} {x : Option α} {f : α → Option β} {b : β} (h : x.bind f = some b) : ∃ a, x = some a ∧ f a = some b := by
  cases x with
  | none => cases h
  | some a => exact ⟨a, rfl, h⟩
def cLn : Nat → Nat := fun j => ([5, 5, 5, 8, 8, 8, 2, 2, 5, 5, 5, 8, 8, 8, 2, 2, 200, 5, 5, 6, 6, 6, 6, 4, 4, 14, 14, 14, 14, 14, 14, 14, 14, 14, 14, 14, 14, 32, 32, 32, 32, 32, 5, 5, 5, 5, 5] : List Nat).getD j 0
def mLn : Nat → Nat := fun j => ([200, 30, 48, 8, 14, 14, 28, 140, 24, 4, 4, 16] : List Nat).getD j 0
def mLb : Nat → Nat := fun j => ([101, 101] : List Nat).getD j 0
theorem cLn_lt {j : Nat} {i : Int32} (h : inb i (cLn j) = true) : j < 47 := by
  rcases Nat.lt_or_ge j 47 with q | q
  · exact q
  · exfalso
    have e : cLn j = 0 := by
      unfold cLn
      rw [List.getD_eq_getElem?_getD, List.getElem?_eq_none (by simpa using q)]
      rfl
    rw [e] at h
    simp [inb] at h
theorem mLn_lt {j : Nat} {i : Int32} (h : inb i (mLn j) = true) : j < 12 := by
  rcases Nat.lt_or_ge j 12 with q | q
  · exact q
  · exfalso
    have e : mLn j = 0 := by
      unfold mLn
      rw [List.getD_eq_getElem?_getD, List.getElem?_eq_none (by simpa using q)]
      rfl
    rw [e] at h
    simp [inb] at h
theorem mLb_lt {j : Nat} {i : Int32} (h : inb i (mLb j) = true) : j < 2 := by
  rcases Nat.lt_or_ge j 2 with q | q
  · exact q
  · exfalso
    have e : mLb j = 0 := by
      unfold mLb
      rw [List.getD_eq_getElem?_getD, List.getElem?_eq_none (by simpa using q)]
      rfl
    rw [e] at h
    simp [inb] at h
def cObj (cy : Nat → ClassId) (ad : Nat → Nat) (σ : Sx) : va_W := [(ad 0, .inr (11, [.ref (ad 1), .ref (ad 2), .ref (ad 3), .ref (ad 4), .ref (ad 5), .ref (ad 6), .ref (ad 13), .ref (ad 14), .ref (ad 18), .ref (ad 38), .ref (ad 39), .ref (ad 40), .ref (ad 41), .int (σ.1 23), .long σ.2.1])),
  (ad 1, .inr (10, [.int (σ.1 0), .int (σ.1 1), .int (σ.1 2), .int (σ.1 3), .ref (ad 19), .ref (ad 20), .ref (ad 21), .ref (ad 22), .ref (ad 23), .ref (ad 24), .ref (ad 25), .ref (ad 26)])),
  (ad 2, .inr (10, [.int (σ.1 4), .int (σ.1 5), .int (σ.1 6), .int (σ.1 7), .ref (ad 27), .ref (ad 28), .ref (ad 29), .ref (ad 30), .ref (ad 31), .ref (ad 32), .ref (ad 33), .ref (ad 34)])),
  (ad 3, .inr (7, [.ref (ad 35), .int (σ.1 8), .int (σ.1 9), .int (σ.1 10), .int (σ.1 11), .int (σ.1 12), .int (σ.1 13)])),
  (ad 4, .inr (4, [.int (σ.1 14), .int (σ.1 15), .int (σ.1 16), .int (σ.1 17), .ref (ad 36), .ref (ad 37)])),
  (ad 5, .inr (2, [.ref (ad 15), .int (σ.1 18), .int (σ.1 19)])),
  (ad 6, .inr (5, [.ref (ad 42), .ref (ad 43), .ref (ad 16), .ref (ad 17), .int (σ.1 20), .int (σ.1 21), .int (σ.1 22)])),
  (ad 7, .inr (9, [])),
  (ad 8, .inr (0, [])),
  (ad 9, .inr (3, [])),
  (ad 10, .inr (1, [])),
  (ad 11, .inr (6, [])),
  (ad 12, .inr (8, [])),
  (ad 13, .inl (cy 3, 6, .inr (.inr (.inr (.inr (fun i => some (ad (7 + i)))))))),
  (ad 14, .inl (cy 4, 2, .inr (.inr (.inr (.inr (fun i => some (ad (19 + (35 + i))))))))),
  (ad 15, .inl (cy 4, 10, .inr (.inr (.inr (.inr (fun i => some (ad (19 + (25 + i))))))))),
  (ad 16, .inl (cy 4, 5, .inr (.inr (.inr (.inr (fun i => some (ad (19 + (37 + i))))))))),
  (ad 17, .inl (cy 4, 5, .inr (.inr (.inr (.inr (fun i => some (ad (19 + (42 + i))))))))),
  (ad 18, .inl (cy 2, 2, .inl (σ.2.2.1 47)))]
def cArr (cy : Nat → ClassId) (ad : Nat → Nat) (σ : Sx) : va_W := (List.range 47).map (fun j => (ad (19 + j), .inl (cy 0, cLn j, .inl (σ.2.2.1 j))))
def mObj (ad : Nat → Nat) (τ : Sx) : va_W := [(ad 66, .inr (12, [.int (τ.1 0), .long τ.2.1, .ref (ad 67), .int (τ.1 1), .int (τ.1 2), .int (τ.1 3), .int (τ.1 4), .int (τ.1 5), .int (τ.1 6), .ref (ad 68), .ref (ad 69), .ref (ad 70), .int (τ.1 7), .int (τ.1 8), .int (τ.1 9), .int (τ.1 10), .int (τ.1 11), .int (τ.1 12), .int (τ.1 13), .int (τ.1 14), .ref (ad 71), .ref (ad 72), .ref (ad 73), .ref (ad 79), .ref (ad 74), .int (τ.1 15), .ref (ad 75), .int (τ.1 16), .ref (ad 76), .ref (ad 77), .ref (ad 80), .ref (ad 81), .ref (ad 78), .int (τ.1 17), .int (τ.1 18), .int (τ.1 19), .int (τ.1 20)]))]
def mArr (cy : Nat → ClassId) (ad : Nat → Nat) (τ : Sx) : va_W := (List.range 12).map (fun j => (ad (67 + j), .inl (cy 0, mLn j, .inl (τ.2.2.1 j))))
def mZar (cy : Nat → ClassId) (ad : Nat → Nat) (τ : Sx) : va_W := [(ad 79, .inl (cy 2, 2, .inl (τ.2.2.1 12)))]
def mBar (cy : Nat → ClassId) (ad : Nat → Nat) (τ : Sx) : va_W := (List.range 2).map (fun j => (ad (80 + j), .inl (cy 1, mLb j, .inr (.inl (τ.2.2.2 j)))))
def gW (cy : Nat → ClassId) (ad : Nat → Nat) (σ τ : Sx) : va_W := cObj cy ad σ ++ (cArr cy ad σ ++ (mObj ad τ ++ (mArr cy ad τ ++ (mZar cy ad τ ++ mBar cy ad τ))))
abbrev tyL (cy : Nat → ClassId) : List (ClassId × FieldType) := [(cy 0, .int), (cy 1, .long), (cy 2, .boolean), (cy 3, .object "OneSocket$Telephone"), (cy 4, .array .int)]
theorem rg_get {α : Type} (f : Nat → α) {n j : Nat} (h : j < n) : ((List.range n).map f)[j]? = some (f j) := by
  rw [List.getElem?_map, List.getElem?_range h]; rfl
theorem rg_set {α : Type} (f f' : Nat → α) {n j : Nat} (hne : ∀ i, i ≠ j → f' i = f i) : ((List.range n).map f).set j (f' j) = (List.range n).map f' := by
  apply List.ext_getElem?
  intro i
  rw [List.getElem?_set]
  by_cases e : j = i
  · subst e
    by_cases hl : j < n
    · simp [hl]
    · simp [hl]
  · rw [if_neg e, List.getElem?_map, List.getElem?_map]
    by_cases hl : i < n
    · rw [List.getElem?_range hl]; simp [hne i (fun q => e q.symm)]
    · rw [List.getElem?_eq_none (by simpa using hl)]; rfl
theorem ap_get {α : Type} {a b : List α} {n : Nat} (ha : a.length = n) (j : Nat) : (a ++ b)[n + j]? = b[j]? := by
  rw [List.getElem?_append_right (by omega), ha]; congr 1; omega
theorem ap_set {α : Type} {a b : List α} {n : Nat} (ha : a.length = n) (j : Nat) (x : α) : (a ++ b).set (n + j) x = a ++ b.set j x := by
  rw [List.set_append_right _ _ (by omega), ha]; congr 2; omega
theorem apl_get {α : Type} {a b : List α} {j : Nat} {x : α} (h : a[j]? = some x) : (a ++ b)[j]? = some x := by
  rw [List.getElem?_append_left ((List.getElem?_eq_some_iff.mp h).1)]; exact h
theorem apl_set {α : Type} {a b : List α} {j n : Nat} (ha : a.length = n) (h : j < n) (x : α) : (a ++ b).set j x = a.set j x ++ b := List.set_append_left _ _ (by omega)
section GW
variable {cy : Nat → ClassId} {ad : Nat → Nat} {σ τ : Sx}
theorem len_cObj : (cObj cy ad σ).length = 19 := rfl
theorem len_cArr : (cArr cy ad σ).length = 47 := by simp [cArr]
theorem len_mObj : (mObj ad τ).length = 1 := rfl
theorem len_mArr : (mArr cy ad τ).length = 12 := by simp [mArr]
theorem len_mZar : (mZar cy ad τ).length = 1 := rfl
theorem gW_o {q : Nat} {x : Nat × va_E} (h : (cObj cy ad σ)[q]? = some x) : (gW cy ad σ τ)[q]? = some x := apl_get h
theorem gW_ca {j : Nat} (h : j < 47) : (gW cy ad σ τ)[19 + j]? = some (ad (19 + j), .inl (cy 0, cLn j, .inl (σ.2.2.1 j))) := by
  unfold gW
  rw [ap_get len_cObj]
  exact apl_get (rg_get _ h)
theorem gW_mo : (gW cy ad σ τ)[66]? = (mObj ad τ)[0]? := by
  unfold gW
  rw [show (66 : Nat) = 19 + (47 + 0) from rfl, ap_get len_cObj, ap_get len_cArr]
  rfl
theorem gW_ma {j : Nat} (h : j < 12) : (gW cy ad σ τ)[67 + j]? = some (ad (67 + j), .inl (cy 0, mLn j, .inl (τ.2.2.1 j))) := by
  unfold gW
  rw [show 67 + j = 19 + (47 + (1 + j)) by omega, ap_get len_cObj, ap_get len_cArr, ap_get len_mObj]
  exact apl_get (by rw [show 19 + (47 + (1 + j)) = 67 + j by omega]; exact rg_get _ h)
theorem gW_mz : (gW cy ad σ τ)[79]? = some (ad 79, .inl (cy 2, 2, .inl (τ.2.2.1 12))) := by
  unfold gW
  rw [show (79 : Nat) = 19 + (47 + (1 + (12 + 0))) from rfl, ap_get len_cObj, ap_get len_cArr, ap_get len_mObj, ap_get len_mArr]
  rfl
theorem gW_mb {j : Nat} (h : j < 2) : (gW cy ad σ τ)[80 + j]? = some (ad (80 + j), .inl (cy 1, mLb j, .inr (.inl (τ.2.2.2 j)))) := by
  unfold gW
  rw [show 80 + j = 19 + (47 + (1 + (12 + (1 + j)))) by omega, ap_get len_cObj, ap_get len_cArr, ap_get len_mObj, ap_get len_mArr, ap_get len_mZar]
  rw [show 19 + (47 + (1 + (12 + (1 + j)))) = 80 + j by omega]
  exact rg_get _ h
theorem gS_o {σ' : Sx} {q : Nat} {x : Nat × va_E} (hq : q < 19) (h : (cObj cy ad σ).set q x = cObj cy ad σ') (h2 : σ'.2.2.1 = σ.2.2.1 ∨ (∀ j, j < 47 → σ'.2.2.1 j = σ.2.2.1 j)) : (gW cy ad σ τ).set q x = gW cy ad σ' τ := by
  have e : cArr cy ad σ' = cArr cy ad σ := by
    unfold cArr
    apply List.map_congr_left
    intro j hj
    have hj := List.mem_range.mp hj
    rcases h2 with h2 | h2
    · rw [h2]
    · rw [h2 j hj]
  unfold gW
  rw [apl_set len_cObj hq, h, e]
theorem gS_ca {j : Nat} (f : Nat → Int32) (hj : j < 47) : (gW cy ad σ τ).set (19 + j) (ad (19 + j), .inl (cy 0, cLn j, .inl f)) = gW cy ad (sr σ j f) τ := by
  unfold gW
  rw [ap_set len_cObj, apl_set len_cArr hj]
  have e1 : cObj cy ad (sr σ j f) = cObj cy ad σ := by
    have : (sr σ j f).2.2.1 47 = σ.2.2.1 47 := if_neg (by omega)
    unfold cObj
    rw [this]
    rfl
  have e2 : (cArr cy ad σ).set j (ad (19 + j), .inl (cy 0, cLn j, .inl f)) = cArr cy ad (sr σ j f) := by
    have := rg_set (fun i => (ad (19 + i), (.inl (cy 0, cLn i, .inl (σ.2.2.1 i)) : va_E))) (fun i => (ad (19 + i), (.inl (cy 0, cLn i, .inl ((sr σ j f).2.2.1 i)) : va_E))) (n := 47) (j := j) (fun i hi => by
      show (ad (19 + i), (Sum.inl (cy 0, cLn i, Sum.inl (va_up σ.2.2.1 j f i)) : va_E)) = _
      rw [va_up_ne _ _ hi])
    have e3 : (sr σ j f).2.2.1 j = f := if_pos rfl
    rw [e3] at this
    exact this
  rw [e1, e2]
theorem gS_cz (f : Nat → Int32) : (gW cy ad σ τ).set 18 (ad 18, .inl (cy 2, 2, .inl f)) = gW cy ad (sr σ 47 f) τ := by
  refine gS_o (by decide) ?_ (Or.inr (fun j hj => va_up_ne _ _ (by omega)))
  have e3 : (sr σ 47 f).2.2.1 47 = f := by simp [sr, va_up]
  unfold cObj
  rw [e3]
  rfl
theorem gS_mo {τ' : Sx} {x : Nat × va_E} (h : (mObj ad τ).set 0 x = mObj ad τ') (h2 : τ'.2.2 = τ.2.2) : (gW cy ad σ τ).set 66 x = gW cy ad σ τ' := by
  unfold gW
  rw [show (66 : Nat) = 19 + (47 + 0) from rfl, ap_set len_cObj, ap_set len_cArr, apl_set len_mObj (by decide), h]
  unfold mArr mZar mBar
  rw [h2]
theorem gS_ma {j : Nat} (f : Nat → Int32) (hj : j < 12) : (gW cy ad σ τ).set (67 + j) (ad (67 + j), .inl (cy 0, mLn j, .inl f)) = gW cy ad σ (sr τ j f) := by
  unfold gW
  rw [show 67 + j = 19 + (47 + (1 + j)) by omega, ap_set len_cObj, ap_set len_cArr, ap_set len_mObj, apl_set len_mArr hj]
  rw [show 19 + (47 + (1 + j)) = 67 + j by omega]
  have e2 : (mArr cy ad τ).set j (ad (67 + j), .inl (cy 0, mLn j, .inl f)) = mArr cy ad (sr τ j f) := by
    have := rg_set (fun i => (ad (67 + i), (.inl (cy 0, mLn i, .inl (τ.2.2.1 i)) : va_E))) (fun i => (ad (67 + i), (.inl (cy 0, mLn i, .inl ((sr τ j f).2.2.1 i)) : va_E))) (n := 12) (j := j) (fun i hi => by
      show (ad (67 + i), (Sum.inl (cy 0, mLn i, Sum.inl (va_up τ.2.2.1 j f i)) : va_E)) = _
      rw [va_up_ne _ _ hi])
    have e3 : (sr τ j f).2.2.1 j = f := if_pos rfl
    rw [e3] at this
    exact this
  have e4 : mZar cy ad (sr τ j f) = mZar cy ad τ := by
    have : (sr τ j f).2.2.1 12 = τ.2.2.1 12 := if_neg (by omega)
    unfold mZar
    rw [this]
  have e5 : mBar cy ad (sr τ j f) = mBar cy ad τ := rfl
  have e6 : mObj ad (sr τ j f) = mObj ad τ := rfl
  rw [e2, e4, e5, e6]
theorem gS_mz (f : Nat → Int32) : (gW cy ad σ τ).set 79 (ad 79, .inl (cy 2, 2, .inl f)) = gW cy ad σ (sr τ 12 f) := by
  unfold gW
  rw [show (79 : Nat) = 19 + (47 + (1 + (12 + 0))) from rfl, ap_set len_cObj, ap_set len_cArr, ap_set len_mObj, ap_set len_mArr, apl_set len_mZar (by decide)]
  have e2 : mArr cy ad (sr τ 12 f) = mArr cy ad τ := by
    unfold mArr
    apply List.map_congr_left
    intro j hj
    have hj := List.mem_range.mp hj
    show (ad (67 + j), (Sum.inl (cy 0, mLn j, Sum.inl (va_up τ.2.2.1 12 f j)) : va_E)) = _
    rw [va_up_ne _ _ (by omega)]
  have e3 : (sr τ 12 f).2.2.1 12 = f := by simp [sr, va_up]
  have e4 : mZar cy ad (sr τ 12 f) = (mZar cy ad τ).set 0 (ad 79, .inl (cy 2, 2, .inl f)) := by
    unfold mZar
    rw [e3]
    rfl
  rw [e2, e4]
  rfl
theorem gS_mb {j : Nat} (f : Nat → Int64) (hj : j < 2) : (gW cy ad σ τ).set (80 + j) (ad (80 + j), .inl (cy 1, mLb j, .inr (.inl f))) = gW cy ad σ (sm τ j f) := by
  unfold gW
  rw [show 80 + j = 19 + (47 + (1 + (12 + (1 + j)))) by omega, ap_set len_cObj, ap_set len_cArr, ap_set len_mObj, ap_set len_mArr, ap_set len_mZar]
  rw [show 19 + (47 + (1 + (12 + (1 + j)))) = 80 + j by omega]
  have e2 : (mBar cy ad τ).set j (ad (80 + j), .inl (cy 1, mLb j, .inr (.inl f))) = mBar cy ad (sm τ j f) := by
    have := rg_set (fun i => (ad (80 + i), (.inl (cy 1, mLb i, .inr (.inl (τ.2.2.2 i))) : va_E))) (fun i => (ad (80 + i), (.inl (cy 1, mLb i, .inr (.inl ((sm τ j f).2.2.2 i))) : va_E))) (n := 2) (j := j) (fun i hi => by
      show (ad (80 + i), (Sum.inl (cy 1, mLb i, Sum.inr (Sum.inl (va_up τ.2.2.2 j f i))) : va_E)) = _
      rw [va_up_ne _ _ hi])
    have e3 : (sm τ j f).2.2.2 j = f := if_pos rfl
    rw [e3] at this
    exact this
  rw [e2]
  rfl
theorem gW_ad : (gW cy ad σ τ).map (fun x => x.1) = (List.range 82).map ad := by
  unfold gW cArr mArr mBar
  simp only [List.map_append, List.map_map]
  rfl
def gInj (ad : Nat → Nat) : Prop := ∀ i j : Nat, i < 82 → j < 82 → ad i = ad j → i = j
def gA (ad : Nat → Nat) : Nat → Prop := fun q => ∃ i, i < 82 ∧ q = ad i
theorem gW_at {k : Nat} {x : Nat × va_E} (h : (gW cy ad σ τ)[k]? = some x) : k < 82 ∧ x.1 = ad k := by
  have h1 : ((gW cy ad σ τ).map (fun x => x.1))[k]? = some x.1 := by rw [List.getElem?_map, h]; rfl
  rw [gW_ad] at h1
  have hl : k < 82 := by
    have := (List.getElem?_eq_some_iff.mp h1).1
    simpa using this
  rw [rg_get _ hl] at h1
  exact ⟨hl, (Option.some.inj h1).symm⟩
theorem gD (hI : gInj ad) : va_D (gA ad) (gW cy ad σ τ) := by
  refine ⟨fun i j x y hx hy e => ?_, fun k x hx => ?_⟩
  · obtain ⟨l1, e1⟩ := gW_at hx
    obtain ⟨l2, e2⟩ := gW_at hy
    exact hI i j l1 l2 (by rw [← e1, ← e2, e])
  · obtain ⟨l1, e1⟩ := gW_at hx
    exact ⟨k, l1, e1⟩
end GW
/-! the tables' words, at every state that is as warm -/
def mvW : Cond → Bool
  | .fieldLinkNest .. => true
  | .methodLinkNest .. => true
  | w => goodWord w
def TB (U : State) : Prop := ∀ w ∈ lw_tbl, mvW w = true → ∀ a : Array Value, w.before a U = true
theorem mvW_moved {w : Cond} (h : mvW w = true) {s U : State} (hW : s.WarmedH U.vm) (hb : ∀ a : Array Value, w.before a s = true) (a : Array Value) : w.before a U = true := by
  by_cases hg : goodWord w = true
  · exact word_at hW (good_of_word hg) (hb a)
  · cases w <;> first | exact absurd h hg | exact va_Nw.use rfl (va_Nw.warmF hW (va_Nw.of (A := a) rfl (hb a))) | exact va_Nw.use rfl (va_Nw.warmM hW (va_Nw.of (A := a) rfl (hb a)))
theorem TB.moved {s U : State} (h : TB s) (hW : s.WarmedH U.vm) : TB U := fun w hw hm a => mvW_moved hm hW (h w hw hm) a
theorem TB.same {s U : State} (h : TB s) (hv : U.vm = s.vm) : TB U := h.moved (by rw [hv]; exact State.WarmedH.refl s)
/-- what holds of the heap and of the tables -/
def gB (D : va_G) (cy : Nat → ClassId) (ad : Nat → Nat) (σ τ : Sx) (U : State) : Prop := va_P D vwCl (gW cy ad σ τ) U.heap ∧ va_K D vwCl (tyL cy) U ∧ TB U
theorem gB_blind {D : va_G} {cy : Nat → ClassId} {ad : Nat → Nat} {σ τ : Sx} {av : List Value} : FrameBlind (va_Pc av (gB D cy ad σ τ)) := by
  intro a U g mk h
  obtain ⟨h1, h2, h3, h4⟩ := h
  exact ⟨h1, h2, va_K.moved (u := U) (U := U.calling g mk a) (Vm.Alike.refl U.vm) h3, h4.same rfl⟩
/-- what a method's walk stands on -/
def Zc (p : Program) (s : State) (m : MethodId) (c : Code) (cc : ByteArray) (nL : Nat) (own : String) (D : va_G) (cy : Nat → ClassId) (ad : Nat → Nat) : Prop :=
  p.tables.exec = Jvm.exec ∧ c.code = cc ∧ c.maxLocals = nL ∧ s.vm.findClass own = some m.cls ∧ TB s ∧ va_K D vwCl (tyL cy) s ∧ gInj ad
/-! ends -/
def cQi (D : va_G) (cy : Nat → ClassId) (ad : Nat → Nat) (τ : Sx) (out : Int32 × Sx) : Array Value → State → Outcome → State → Prop := va_Qi (fun r u => (r, u) = out) (fun u t => va_P D vwCl (gW cy ad u τ) t.heap) (gA ad)
def cQl (D : va_G) (cy : Nat → ClassId) (ad : Nat → Nat) (τ : Sx) (out : Int64 × Sx) : Array Value → State → Outcome → State → Prop := va_Ql (fun r u => (r, u) = out) (fun u t => va_P D vwCl (gW cy ad u τ) t.heap) (gA ad)
def cQv (D : va_G) (cy : Nat → ClassId) (ad : Nat → Nat) (τ : Sx) (out : Sx) : Array Value → State → Outcome → State → Prop := va_Qv (fun u => u = out) (fun u t => va_P D vwCl (gW cy ad u τ) t.heap) (gA ad)
def mQi (D : va_G) (cy : Nat → ClassId) (ad : Nat → Nat) (σ : Sx) (out : Int32 × Sx) : Array Value → State → Outcome → State → Prop := va_Qi (fun r u => (r, u) = out) (fun u t => va_P D vwCl (gW cy ad σ u) t.heap) (gA ad)
def mQl (D : va_G) (cy : Nat → ClassId) (ad : Nat → Nat) (σ : Sx) (out : Int64 × Sx) : Array Value → State → Outcome → State → Prop := va_Ql (fun r u => (r, u) = out) (fun u t => va_P D vwCl (gW cy ad σ u) t.heap) (gA ad)
def mQv (D : va_G) (cy : Nat → ClassId) (ad : Nat → Nat) (σ : Sx) (out : Sx) : Array Value → State → Outcome → State → Prop := va_Qv (fun u => u = out) (fun u t => va_P D vwCl (gW cy ad σ u) t.heap) (gA ad)
def rQi (out : Int32) : Array Value → State → Outcome → State → Prop := vp_Si (fun r => r = out)
def rQl (out : Int64) : Array Value → State → Outcome → State → Prop := vp_Sl (fun r => r = out)
def noA : Nat → Prop := fun _ => False
section ZR
variable {p : Program} {l : Launch} {e : Env} {R : Room} {s : State} {m : MethodId} {args : Array Value} {below : List Frame} {meth : Method} {c : Code} {H : Heap} {locs : List Loc} {cells slots : Nat} {Q : State → Prop}
variable {cc : ByteArray} {pc : Nat} {ls : Array Slot} {rest : List Value} {D : va_G} {cy : Nat → ClassId} {ad : Nat → Nat} {σ τ : Sx} {nL : Nat} {own : String}
theorem zstart {y : MethodName} {maxL : Nat} {ret : Option FieldType} {rm : Room} {Qc : Array Value → State → Outcome → State → Prop} {free : Addr → Prop} (avs : List Value) (hy : plainName y.cls = true) (hown : y.cls = own) (hI : gInj ad) (hlen : (lg_sl avs).length ≤ maxL)
    (body : ∀ (p : Program) (e : Env) (s : State) (m : MethodId) (below : List Frame) (meth : Method) (c : Code), Zc p s m c cc maxL own D cy ad → meth.sig.returnType = ret → meth.locks = false → va_P D vwCl (gW cy ad σ τ) s.heap → ∀ ls : Array Slot, lv_has ls maxL (lv_args 0 avs) → W p l e rm s m avs.toArray below meth c s.heap [] 0 0 (MQ below Qc avs.toArray s 0 0 free) (F0 m 0 ls [])) :
    Met l y [Cond.code y cc maxL ret] rm (va_Pc avs (gB D cy ad σ τ)) Qc 0 0 free := by
  refine Met.ofW (cc := cc) (maxL := maxL) (ret := ret) hy rfl ?_
  intro p e s m args below meth c s₁ B hml hv
  obtain ⟨rfl, hP, hK, hT⟩ := hv
  have hown2 : s.vm.findClass own = some m.cls := by rw [← hown]; exact findClass_of_methodNamed B.named
  have hl := lv_entry avs (n := maxL) hlen
  rw [lg_entry_eq]
  exact body p e s m below meth c ⟨B.exec, B.bytes, hml, hown2, hT, hK, hI⟩ B.returns B.notSynchronized hP _ hl
theorem Zc.x (Z : Zc p s m c cc nL own D cy ad) : p.tables.exec = Jvm.exec := Z.1
theorem Zc.b (Z : Zc p s m c cc nL own D cy ad) : c.code = cc := Z.2.1
theorem Zc.ml (Z : Zc p s m c cc nL own D cy ad) : c.maxLocals = nL := Z.2.2.1
theorem Zc.o (Z : Zc p s m c cc nL own D cy ad) : s.vm.findClass own = some m.cls := Z.2.2.2.1
theorem Zc.t (Z : Zc p s m c cc nL own D cy ad) : TB s := Z.2.2.2.2.1
theorem Zc.k (Z : Zc p s m c cc nL own D cy ad) : va_K D vwCl (tyL cy) s := Z.2.2.2.2.2.1
theorem Zc.i (Z : Zc p s m c cc nL own D cy ad) : gInj ad := Z.2.2.2.2.2.2
theorem u_ws_good {C : String} {T : u_T} {N : Nat} : ∀ w ∈ u_ws C T N, mvW w = true := by
  intro w hw
  obtain ⟨k, -, rfl⟩ := List.mem_map.mp hw
  unfold u_lay
  split <;> rfl
theorem TB.u {C : String} {T : u_T} {N : Nat} (h : TB s) (hin : ∀ w ∈ u_ws C T N, w ∈ lw_tbl) (a : Array Value) : ∀ w ∈ u_ws C T N, w.before a s = true := fun w hw => h w (hin w hw) (u_ws_good w hw) a
theorem zget (Z : Zc p s m c cc nL own D cy ad) (hP : va_P D vwCl (gW cy ad σ τ) H) (q0 : Nat) {ci : Nat} {fs : List Value} {a : Nat} (he : (gW cy ad σ τ)[q0]? = some (a, .inr (ci, fs))) {C : String} {T : u_T} {N : Nat} (hc : vwCl[ci]? = some (C, T, N)) (hin : ∀ w ∈ u_ws C T N, w ∈ lw_tbl) (k : Nat) (hk : k < N) (hT : (T k).1 = C) {index : Nat} (hw : Cond.fieldLink own index C (T k).2.1 (T k).2.2.1 ∈ lw_tbl) {v : Value} (hv : fs[k]? = some v) (hdg : decode cc pc = .ok (.getfield index, 3))
    (kk : W p l e R s m args below meth c H locs cells slots Q (F0 m (pc + 3) ls (v :: rest))) : W p l e R s m args below meth c H locs cells slots Q (F0 m pc ls (.ref a :: rest)) :=
  va_get (D := D) (ci := ci) (C := C) (T := T) (N := N) Z.x Z.b (Z.t.u hin args) (fun _ h => h) Z.o Z.k hP q0 he hc k hk (Z.t _ hw rfl args) (by rw [hT]; exact fun _ h => h) hv hdg kk
theorem zgetN (Z : Zc p s m c cc nL own D cy ad) (hP : va_P D vwCl (gW cy ad σ τ) H) (q0 : Nat) {ci : Nat} {fs : List Value} {a : Nat} (he : (gW cy ad σ τ)[q0]? = some (a, .inr (ci, fs))) {C : String} {T : u_T} {N : Nat} (hc : vwCl[ci]? = some (C, T, N)) (hin : ∀ w ∈ u_ws C T N, w ∈ lw_tbl) (k : Nat) (hk : k < N) (hT : (T k).1 = C) {index : Nat} {host : String} (hw : Cond.fieldLinkNest own index C (T k).2.1 (T k).2.2.1 host ∈ lw_tbl) {v : Value} (hv : fs[k]? = some v) (hdg : decode cc pc = .ok (.getfield index, 3))
    (kk : W p l e R s m args below meth c H locs cells slots Q (F0 m (pc + 3) ls (v :: rest))) : W p l e R s m args below meth c H locs cells slots Q (F0 m pc ls (.ref a :: rest)) :=
  va_getN (D := D) (ci := ci) (C := C) (T := T) (N := N) Z.x Z.b (Z.t.u hin args) (fun _ h => h) Z.o Z.k hP q0 he hc k hk (Z.t _ hw rfl args) (by rw [hT]; exact fun _ h => h) hv hdg kk
theorem zput (Z : Zc p s m c cc nL own D cy ad) (hP : va_P D vwCl (gW cy ad σ τ) H) (hS : va_S (gA ad) s.heap H locs) (q0 : Nat) {ci : Nat} {fs : List Value} {a : Nat} (he : (gW cy ad σ τ)[q0]? = some (a, .inr (ci, fs))) {C : String} {T : u_T} {N : Nat} (hc : vwCl[ci]? = some (C, T, N)) (hin : ∀ w ∈ u_ws C T N, w ∈ lw_tbl) {ty0 : Nat → FieldType} (hty : ∀ k, k < N → parseFieldDescriptor (T k).2.2.1 = some (ty0 k)) (hnm : ∀ a, a < N → ∀ b, b < N → a ≠ b → (T a).2.1 ≠ (T b).2.1) (k : Nat) (hk : k < N) (hT : (T k).1 = C) (hfin : (T k).2.2.2 = false) {index : Nat} (hw : Cond.fieldLink own index C (T k).2.1 (T k).2.2.1 ∈ lw_tbl) {v : Value} (hn : narrow (ty0 k) v = v) (hfit : fits (ty0 k) v = true) (hlf : k < fs.length) {σ' τ' : Sx} (hset : (gW cy ad σ τ).set q0 (a, .inr (ci, fs.set k v)) = gW cy ad σ' τ') (hdg : decode cc pc = .ok (.putfield index, 3))
    (kk : ∀ (H1 : Heap) (locs1 : List Loc), va_P D vwCl (gW cy ad σ' τ') H1 → va_S (gA ad) s.heap H1 locs1 → W p l e R s m args below meth c H1 locs1 cells slots Q (F0 m (pc + 3) ls rest)) : W p l e R s m args below meth c H locs cells slots Q (F0 m pc ls (v :: .ref a :: rest)) :=
  va_put (D := D) (ci := ci) (C := C) (T := T) (N := N) Z.x Z.b (Z.t.u hin args) (fun _ h => h) ty0 hty hnm Z.o Z.k hP (gD Z.i) hS q0 he hc k hk (Z.t _ hw rfl args) (by rw [hT]; exact fun _ h => h) hfin (hty k hk) hn hfit hlf hdg (fun H1 locs1 h1 _ h3 => kk H1 locs1 (hset ▸ h1) h3)
theorem zputN (Z : Zc p s m c cc nL own D cy ad) (hP : va_P D vwCl (gW cy ad σ τ) H) (hS : va_S (gA ad) s.heap H locs) (q0 : Nat) {ci : Nat} {fs : List Value} {a : Nat} (he : (gW cy ad σ τ)[q0]? = some (a, .inr (ci, fs))) {C : String} {T : u_T} {N : Nat} (hc : vwCl[ci]? = some (C, T, N)) (hin : ∀ w ∈ u_ws C T N, w ∈ lw_tbl) {ty0 : Nat → FieldType} (hty : ∀ k, k < N → parseFieldDescriptor (T k).2.2.1 = some (ty0 k)) (hnm : ∀ a, a < N → ∀ b, b < N → a ≠ b → (T a).2.1 ≠ (T b).2.1) (k : Nat) (hk : k < N) (hT : (T k).1 = C) (hfin : (T k).2.2.2 = false) {index : Nat} {host : String} (hw : Cond.fieldLinkNest own index C (T k).2.1 (T k).2.2.1 host ∈ lw_tbl) {v : Value} (hn : narrow (ty0 k) v = v) (hfit : fits (ty0 k) v = true) (hlf : k < fs.length) {σ' τ' : Sx} (hset : (gW cy ad σ τ).set q0 (a, .inr (ci, fs.set k v)) = gW cy ad σ' τ') (hdg : decode cc pc = .ok (.putfield index, 3))
    (kk : ∀ (H1 : Heap) (locs1 : List Loc), va_P D vwCl (gW cy ad σ' τ') H1 → va_S (gA ad) s.heap H1 locs1 → W p l e R s m args below meth c H1 locs1 cells slots Q (F0 m (pc + 3) ls rest)) : W p l e R s m args below meth c H locs cells slots Q (F0 m pc ls (v :: .ref a :: rest)) :=
  va_putN (D := D) (ci := ci) (C := C) (T := T) (N := N) Z.x Z.b (Z.t.u hin args) (fun _ h => h) ty0 hty hnm Z.o Z.k hP (gD Z.i) hS q0 he hc k hk (Z.t _ hw rfl args) (by rw [hT]; exact fun _ h => h) hfin (hty k hk) hn hfit hlf hdg (fun H1 locs1 h1 _ h3 => kk H1 locs1 (hset ▸ h1) h3)
/-! arrays -/
theorem zc_ld (Z : Zc p s m c cc nL own D cy ad) (hP : va_P D vwCl (gW cy ad σ τ) H) {j : Nat} {i v : Int32} (hv : ldA cLn σ j i = some v) (hdg : decode cc pc = .ok (.iaload, 1))
    (kk : W p l e R s m args below meth c H locs cells slots Q (F0 m (pc + 1) ls (.int v :: rest))) : W p l e R s m args below meth c H locs cells slots Q (F0 m pc ls (.int i :: .ref (ad (19 + j)) :: rest)) := by
  unfold ldA at hv
  split at hv
  · next h =>
    cases hv
    exact va_iald Z.x Z.b Z.k hP (19 + j) 0 (gW_ca (cLn_lt h)) rfl (inb_vp h) hdg kk
  · cases hv
theorem zm_ld (Z : Zc p s m c cc nL own D cy ad) (hP : va_P D vwCl (gW cy ad σ τ) H) {j : Nat} {i v : Int32} (hv : ldA mLn τ j i = some v) (hdg : decode cc pc = .ok (.iaload, 1))
    (kk : W p l e R s m args below meth c H locs cells slots Q (F0 m (pc + 1) ls (.int v :: rest))) : W p l e R s m args below meth c H locs cells slots Q (F0 m pc ls (.int i :: .ref (ad (67 + j)) :: rest)) := by
  unfold ldA at hv
  split at hv
  · next h =>
    cases hv
    exact va_iald Z.x Z.b Z.k hP (67 + j) 0 (gW_ma (mLn_lt h)) rfl (inb_vp h) hdg kk
  · cases hv
theorem zm_ldl (Z : Zc p s m c cc nL own D cy ad) (hP : va_P D vwCl (gW cy ad σ τ) H) {j : Nat} {i : Int32} {v : Int64} (hv : ldB mLb τ j i = some v) (hdg : decode cc pc = .ok (.laload, 1))
    (kk : W p l e R s m args below meth c H locs cells slots Q (F0 m (pc + 1) ls (.long v :: rest))) : W p l e R s m args below meth c H locs cells slots Q (F0 m pc ls (.int i :: .ref (ad (80 + j)) :: rest)) := by
  unfold ldB at hv
  split at hv
  · next h =>
    cases hv
    exact va_lald Z.x Z.b Z.k hP (80 + j) 1 (gW_mb (mLb_lt h)) rfl (inb_vp h) hdg kk
  · cases hv
theorem zc_st (Z : Zc p s m c cc nL own D cy ad) (hP : va_P D vwCl (gW cy ad σ τ) H) (hS : va_S (gA ad) s.heap H locs) {j : Nat} {i x : Int32} {σ' : Sx} (hv : stA cLn σ j i x = some σ') (hdg : decode cc pc = .ok (.iastore, 1))
    (kk : ∀ (H1 : Heap) (locs1 : List Loc), va_P D vwCl (gW cy ad σ' τ) H1 → va_S (gA ad) s.heap H1 locs1 → W p l e R s m args below meth c H1 locs1 cells slots Q (F0 m (pc + 1) ls rest)) : W p l e R s m args below meth c H locs cells slots Q (F0 m pc ls (.int x :: .int i :: .ref (ad (19 + j)) :: rest)) := by
  unfold stA at hv
  split at hv
  · next h =>
    cases hv
    exact va_iast Z.x Z.b Z.k hP (gD Z.i) hS (19 + j) 0 (gW_ca (cLn_lt h)) rfl (inb_vp h) hdg (fun H1 locs1 h1 _ h3 => kk H1 locs1 (gS_ca _ (cLn_lt h) ▸ h1) h3)
  · cases hv
theorem zm_st (Z : Zc p s m c cc nL own D cy ad) (hP : va_P D vwCl (gW cy ad σ τ) H) (hS : va_S (gA ad) s.heap H locs) {j : Nat} {i x : Int32} {τ' : Sx} (hv : stA mLn τ j i x = some τ') (hdg : decode cc pc = .ok (.iastore, 1))
    (kk : ∀ (H1 : Heap) (locs1 : List Loc), va_P D vwCl (gW cy ad σ τ') H1 → va_S (gA ad) s.heap H1 locs1 → W p l e R s m args below meth c H1 locs1 cells slots Q (F0 m (pc + 1) ls rest)) : W p l e R s m args below meth c H locs cells slots Q (F0 m pc ls (.int x :: .int i :: .ref (ad (67 + j)) :: rest)) := by
  unfold stA at hv
  split at hv
  · next h =>
    cases hv
    exact va_iast Z.x Z.b Z.k hP (gD Z.i) hS (67 + j) 0 (gW_ma (mLn_lt h)) rfl (inb_vp h) hdg (fun H1 locs1 h1 _ h3 => kk H1 locs1 (gS_ma _ (mLn_lt h) ▸ h1) h3)
  · cases hv
theorem zm_stl (Z : Zc p s m c cc nL own D cy ad) (hP : va_P D vwCl (gW cy ad σ τ) H) (hS : va_S (gA ad) s.heap H locs) {j : Nat} {i : Int32} {x : Int64} {τ' : Sx} (hv : stB mLb τ j i x = some τ') (hdg : decode cc pc = .ok (.lastore, 1))
    (kk : ∀ (H1 : Heap) (locs1 : List Loc), va_P D vwCl (gW cy ad σ τ') H1 → va_S (gA ad) s.heap H1 locs1 → W p l e R s m args below meth c H1 locs1 cells slots Q (F0 m (pc + 1) ls rest)) : W p l e R s m args below meth c H locs cells slots Q (F0 m pc ls (.long x :: .int i :: .ref (ad (80 + j)) :: rest)) := by
  unfold stB at hv
  split at hv
  · next h =>
    cases hv
    exact va_last Z.x Z.b Z.k hP (gD Z.i) hS (80 + j) 1 (gW_mb (mLb_lt h)) rfl (inb_vp h) hdg (fun H1 locs1 h1 _ h3 => kk H1 locs1 (gS_mb _ (mLb_lt h) ▸ h1) h3)
  · cases hv
def ldZ (σ : Sx) (j : Nat) (i : Int32) : Option Int32 := if inb i 2 = true then some (σ.2.2.1 j i.toNatClampNeg) else none
def stZ (σ : Sx) (j : Nat) (i x : Int32) : Option Sx := if inb i 2 = true then some (sr σ j (upd (σ.2.2.1 j) i.toNatClampNeg (vp_nar .boolean x))) else none
theorem zc_ldz (Z : Zc p s m c cc nL own D cy ad) (hP : va_P D vwCl (gW cy ad σ τ) H) {i v : Int32} (hv : ldZ σ 47 i = some v) (hdg : decode cc pc = .ok (.baload, 1))
    (kk : W p l e R s m args below meth c H locs cells slots Q (F0 m (pc + 1) ls (.int v :: rest))) : W p l e R s m args below meth c H locs cells slots Q (F0 m pc ls (.int i :: .ref (ad 18) :: rest)) := by
  unfold ldZ at hv
  split at hv
  · next h =>
    cases hv
    exact va_zald (cA := cy 2) (n := 2) (f := σ.2.2.1 47) Z.x Z.b Z.k hP 18 2 (gW_o rfl) rfl (inb_vp h) hdg kk
  · cases hv
theorem zc_stz (Z : Zc p s m c cc nL own D cy ad) (hP : va_P D vwCl (gW cy ad σ τ) H) (hS : va_S (gA ad) s.heap H locs) {i x : Int32} {σ' : Sx} (hv : stZ σ 47 i x = some σ') (hdg : decode cc pc = .ok (.bastore, 1))
    (kk : ∀ (H1 : Heap) (locs1 : List Loc), va_P D vwCl (gW cy ad σ' τ) H1 → va_S (gA ad) s.heap H1 locs1 → W p l e R s m args below meth c H1 locs1 cells slots Q (F0 m (pc + 1) ls rest)) : W p l e R s m args below meth c H locs cells slots Q (F0 m pc ls (.int x :: .int i :: .ref (ad 18) :: rest)) := by
  unfold stZ at hv
  split at hv
  · next h =>
    cases hv
    exact va_zast (cA := cy 2) (n := 2) (f := σ.2.2.1 47) Z.x Z.b Z.k hP (gD Z.i) hS 18 2 (gW_o rfl) rfl (inb_vp h) hdg (fun H1 locs1 h1 _ h3 => kk H1 locs1 (gS_cz _ ▸ h1) h3)
  · cases hv
theorem zm_ldz (Z : Zc p s m c cc nL own D cy ad) (hP : va_P D vwCl (gW cy ad σ τ) H) {i v : Int32} (hv : ldZ τ 12 i = some v) (hdg : decode cc pc = .ok (.baload, 1))
    (kk : W p l e R s m args below meth c H locs cells slots Q (F0 m (pc + 1) ls (.int v :: rest))) : W p l e R s m args below meth c H locs cells slots Q (F0 m pc ls (.int i :: .ref (ad 79) :: rest)) := by
  unfold ldZ at hv
  split at hv
  · next h =>
    cases hv
    exact va_zald Z.x Z.b Z.k hP 79 2 gW_mz rfl (inb_vp h) hdg kk
  · cases hv
theorem zm_stz (Z : Zc p s m c cc nL own D cy ad) (hP : va_P D vwCl (gW cy ad σ τ) H) (hS : va_S (gA ad) s.heap H locs) {i x : Int32} {τ' : Sx} (hv : stZ τ 12 i x = some τ') (hdg : decode cc pc = .ok (.bastore, 1))
    (kk : ∀ (H1 : Heap) (locs1 : List Loc), va_P D vwCl (gW cy ad σ τ') H1 → va_S (gA ad) s.heap H1 locs1 → W p l e R s m args below meth c H1 locs1 cells slots Q (F0 m (pc + 1) ls rest)) : W p l e R s m args below meth c H locs cells slots Q (F0 m pc ls (.int x :: .int i :: .ref (ad 79) :: rest)) := by
  unfold stZ at hv
  split at hv
  · next h =>
    cases hv
    exact va_zast Z.x Z.b Z.k hP (gD Z.i) hS 79 2 gW_mz rfl (inb_vp h) hdg (fun H1 locs1 h1 _ h3 => kk H1 locs1 (gS_mz _ ▸ h1) h3)
  · cases hv
theorem zald (Z : Zc p s m c cc nL own D cy ad) (hP : va_P D vwCl (gW cy ad σ τ) H) (q0 : Nat) {n b : Nat} (he : (gW cy ad σ τ)[q0]? = some (ad q0, .inl (cy 4, n, .inr (.inr (.inr (.inr (fun i => some (ad (19 + (b + i)))))))))) {i : Int32} {k : Nat} (hv : ixq i n = some k) (hdg : decode cc pc = .ok (.aaload, 1))
    (kk : W p l e R s m args below meth c H locs cells slots Q (F0 m (pc + 1) ls (.ref (ad (19 + (b + k))) :: rest))) : W p l e R s m args below meth c H locs cells slots Q (F0 m pc ls (.int i :: .ref (ad q0) :: rest)) := by
  unfold ixq at hv
  split at hv
  · next h =>
    cases hv
    have hin := inb_vp h
    have hlt : i.toNatClampNeg < n := Nat.not_le.mp fun q => hin (Or.inr q)
    exact W.aald (v := .ref (ad (19 + (b + i.toNatClampNeg)))) (ty := .array .int) Z.x Z.b (hP q0 _ he) ((Z.k.2 4 _ rfl).1 n (fun j => va_rf (some (ad (19 + (b + j)))))) rfl (fun q => by cases q) (by show ¬ (i < 0 ∨ (arrV _ _ _).slots.size ≤ _); rw [arrV_size]; exact hin) (by show (arrV _ _ _).slots[_]? = _; rw [arrV_read _ _ hlt]; rfl) rfl rfl hdg kk
  · cases hv
theorem zc_cp (Z : Zc p s m c cc nL own D cy ad) (hP : va_P D vwCl (gW cy ad σ τ) H) (hS : va_S (gA ad) s.heap H locs) (hml : ls.size = nL) {i j : Nat} {sp dp n : Int32} {index : Nat} (hw : Cond.methodLink own index arraycopyName ∈ lw_tbl) (hw2 : Cond.native arraycopyName ∈ lw_tbl) (hw3 : Cond.static arraycopyName ∈ lw_tbl) (hw4 : Cond.initialized "java/lang/System" ∈ lw_tbl) {σ' : Sx} (hv : cpA cLn σ i j sp dp n = some σ') (hframes : 1 ≤ R.frames) (hlocals : (rest.map fun v => v.category).sum + (nativeFrameWords "java/lang/System" "arraycopy" 5 + 11) ≤ R.locals) (hdg : decode cc pc = .ok (.invokestatic index, 3))
    (kk : ∀ (H1 : Heap) (locs1 : List Loc), va_P D vwCl (gW cy ad σ' τ) H1 → va_S (gA ad) s.heap H1 locs1 → W p l e R s m args below meth c H1 locs1 cells slots Q (F0 m (pc + 3) ls rest)) : W p l e R s m args below meth c H locs cells slots Q (F0 m pc ls (.int n :: .int dp :: .ref (ad (19 + j)) :: .int sp :: .ref (ad (19 + i)) :: rest)) := by
  unfold cpA at hv
  split at hv
  · next h =>
    cases hv
    obtain ⟨⟨hi, hj⟩, ⟨h1, h2, h3⟩, h4, h5⟩ := h
    exact va_copyi Z.x Z.b (by rw [Z.ml, hml]) Z.o (Z.t _ hw rfl args) (Z.t _ hw2 rfl args) (Z.t _ hw3 rfl args) (Z.t _ hw4 rfl args) Z.k hP (gD Z.i) hS (19 + i) (19 + j) 0 0 (gW_ca hi) (gW_ca hj) rfl rfl rfl h1 h2 h3 h4 h5 (fun _ _ => rfl) hframes hlocals hdg (fun H1 locs1 a1 _ a3 => kk H1 locs1 (gS_ca _ hj ▸ a1) a3)
  · cases hv
theorem zdiv (Z : Zc p s m c cc nL own D cy ad) {x y v : Int32} (hv : dvI x y = some v) (hdg : decode cc pc = .ok (.idiv, 1)) (kk : W p l e R s m args below meth c H locs cells slots Q (F0 m (pc + 1) ls (.int v :: rest))) : W p l e R s m args below meth c H locs cells slots Q (F0 m pc ls (.int y :: .int x :: rest)) := by
  unfold dvI at hv
  split at hv
  · cases hv
  · next h =>
    cases hv
    exact lv_idiv Z.x Z.b hdg h kk
theorem zldiv (Z : Zc p s m c cc nL own D cy ad) {x y v : Int64} (hv : dvL x y = some v) (hdg : decode cc pc = .ok (.ldiv, 1)) (kk : W p l e R s m args below meth c H locs cells slots Q (F0 m (pc + 1) ls (.long v :: rest))) : W p l e R s m args below meth c H locs cells slots Q (F0 m pc ls (.long y :: .long x :: rest)) := by
  unfold dvL at hv
  split at hv
  · cases hv
  · next h =>
    cases hv
    exact lv_ldiv Z.x Z.b hdg h kk
theorem zrem (Z : Zc p s m c cc nL own D cy ad) {x y v : Int32} (hv : rmI x y = some v) (hdg : decode cc pc = .ok (.irem, 1)) (kk : W p l e R s m args below meth c H locs cells slots Q (F0 m (pc + 1) ls (.int v :: rest))) : W p l e R s m args below meth c H locs cells slots Q (F0 m pc ls (.int y :: .int x :: rest)) := by
  unfold rmI at hv
  split at hv
  · cases hv
  · next h =>
    cases hv
    exact lv_irem Z.x Z.b hdg h kk
theorem zlrem (Z : Zc p s m c cc nL own D cy ad) {x y v : Int64} (hv : rmL x y = some v) (hdg : decode cc pc = .ok (.lrem, 1)) (kk : W p l e R s m args below meth c H locs cells slots Q (F0 m (pc + 1) ls (.long v :: rest))) : W p l e R s m args below meth c H locs cells slots Q (F0 m pc ls (.long y :: .long x :: rest)) := by
  unfold rmL at hv
  split at hv
  · cases hv
  · next h =>
    cases hv
    exact lv_lrem Z.x Z.b hdg h kk
/-! ends: of readers -/
theorem zri (Z : Zc p s m c cc nL own D cy ad) (hr : meth.sig.returnType = some .int) (hlk : meth.locks = false) {v out : Int32} (h : some v = some out) (hdg : decode cc pc = .ok (.ireturn, 1)) : W p l e R s m args below meth c s.heap [] 0 0 (MQ below (rQi out) args s 0 0 noA) (F0 m pc ls [.int v]) := by
  cases h
  exact W.iret Z.x Z.b hr (fun t ht _ => ⟨v, rfl, rfl, ht⟩) (fun q hq => by cases hq) hdg hlk
theorem zrz (Z : Zc p s m c cc nL own D cy ad) (hr : meth.sig.returnType = some .boolean) (hlk : meth.locks = false) {v out : Int32} (h : rtZ v = some out) (hdg : decode cc pc = .ok (.ireturn, 1)) : W p l e R s m args below meth c s.heap [] 0 0 (MQ below (rQi out) args s 0 0 noA) (F0 m pc ls [.int v]) := by
  unfold rtZ at h
  split at h
  · next hz =>
    cases h
    exact W.zret Z.x Z.b hr (by rcases hz with rfl | rfl <;> rfl) (fun t ht _ => ⟨v, rfl, rfl, ht⟩) (fun q hq => by cases hq) hdg hlk
  · cases h
theorem zrzc (Z : Zc p s m c cc nL own D cy ad) (hr : meth.sig.returnType = some .boolean) (hlk : meth.locks = false) {v out : Int32} (hz : v = 0 ∨ v = 1) (h : some v = some out) (hdg : decode cc pc = .ok (.ireturn, 1)) : W p l e R s m args below meth c s.heap [] 0 0 (MQ below (rQi out) args s 0 0 noA) (F0 m pc ls [.int v]) :=
  zrz Z hr hlk (by unfold rtZ; rw [if_pos hz]; exact h) hdg
theorem zrl (Z : Zc p s m c cc nL own D cy ad) (hr : meth.sig.returnType = some .long) (hlk : meth.locks = false) {v out : Int64} (h : some v = some out) (hdg : decode cc pc = .ok (.lreturn, 1)) : W p l e R s m args below meth c s.heap [] 0 0 (MQ below (rQl out) args s 0 0 noA) (F0 m pc ls [.long v]) := by
  cases h
  exact W.lret Z.x Z.b hr (fun t ht _ => ⟨v, rfl, rfl, ht⟩) (fun q hq => by cases hq) hdg hlk
/-! ends: of writers -/
theorem zci (Z : Zc p s m c cc nL own D cy ad) (hP : va_P D vwCl (gW cy ad σ τ) H) (hS : va_S (gA ad) s.heap H locs) (hr : meth.sig.returnType = some .int) (hlk : meth.locks = false) {v : Int32} {out : Int32 × Sx} (h : some (v, σ) = some out) (hdg : decode cc pc = .ok (.ireturn, 1)) : W p l e R s m args below meth c H locs 0 0 (MQ below (cQi D cy ad τ out) args s 0 0 (gA ad)) (F0 m pc ls [.int v]) := by
  cases h
  exact W.iret Z.x Z.b hr (fun t ht _ => ⟨⟨v, σ, rfl, rfl, by dsimp only; rw [ht]; exact hP⟩, hS.F ht⟩) hS.2.2 hdg hlk
theorem zcz (Z : Zc p s m c cc nL own D cy ad) (hP : va_P D vwCl (gW cy ad σ τ) H) (hS : va_S (gA ad) s.heap H locs) (hr : meth.sig.returnType = some .boolean) (hlk : meth.locks = false) {v : Int32} {out : Int32 × Sx} (h : (rtZ v).bind (fun v => some (v, σ)) = some out) (hdg : decode cc pc = .ok (.ireturn, 1)) : W p l e R s m args below meth c H locs 0 0 (MQ below (cQi D cy ad τ out) args s 0 0 (gA ad)) (F0 m pc ls [.int v]) := by
  unfold rtZ at h
  split at h
  · next hz =>
    cases h
    exact W.zret Z.x Z.b hr (by rcases hz with rfl | rfl <;> rfl) (fun t ht _ => ⟨⟨v, σ, rfl, rfl, by dsimp only; rw [ht]; exact hP⟩, hS.F ht⟩) hS.2.2 hdg hlk
  · cases h
theorem zczc (Z : Zc p s m c cc nL own D cy ad) (hP : va_P D vwCl (gW cy ad σ τ) H) (hS : va_S (gA ad) s.heap H locs) (hr : meth.sig.returnType = some .boolean) (hlk : meth.locks = false) {v : Int32} {out : Int32 × Sx} (hz : v = 0 ∨ v = 1) (h : some (v, σ) = some out) (hdg : decode cc pc = .ok (.ireturn, 1)) : W p l e R s m args below meth c H locs 0 0 (MQ below (cQi D cy ad τ out) args s 0 0 (gA ad)) (F0 m pc ls [.int v]) :=
  zcz Z hP hS hr hlk (by unfold rtZ; rw [if_pos hz]; exact h) hdg
theorem zcl (Z : Zc p s m c cc nL own D cy ad) (hP : va_P D vwCl (gW cy ad σ τ) H) (hS : va_S (gA ad) s.heap H locs) (hr : meth.sig.returnType = some .long) (hlk : meth.locks = false) {v : Int64} {out : Int64 × Sx} (h : some (v, σ) = some out) (hdg : decode cc pc = .ok (.lreturn, 1)) : W p l e R s m args below meth c H locs 0 0 (MQ below (cQl D cy ad τ out) args s 0 0 (gA ad)) (F0 m pc ls [.long v]) := by
  cases h
  exact W.lret Z.x Z.b hr (fun t ht _ => ⟨⟨v, σ, rfl, rfl, by dsimp only; rw [ht]; exact hP⟩, hS.F ht⟩) hS.2.2 hdg hlk
theorem zcv (Z : Zc p s m c cc nL own D cy ad) (hP : va_P D vwCl (gW cy ad σ τ) H) (hS : va_S (gA ad) s.heap H locs) (hr : meth.sig.returnType = none) (hlk : meth.locks = false) {out : Sx} (h : some σ = some out) (hdg : decode cc pc = .ok (.return_, 1)) : W p l e R s m args below meth c H locs 0 0 (MQ below (cQv D cy ad τ out) args s 0 0 (gA ad)) (F0 m pc ls []) := by
  cases h
  exact W.vret Z.x Z.b hr (fun t ht _ => ⟨⟨σ, rfl, rfl, by dsimp only; rw [ht]; exact hP⟩, hS.F ht⟩) hS.2.2 hdg hlk
theorem zmi (Z : Zc p s m c cc nL own D cy ad) (hP : va_P D vwCl (gW cy ad σ τ) H) (hS : va_S (gA ad) s.heap H locs) (hr : meth.sig.returnType = some .int) (hlk : meth.locks = false) {v : Int32} {out : Int32 × Sx} (h : some (v, τ) = some out) (hdg : decode cc pc = .ok (.ireturn, 1)) : W p l e R s m args below meth c H locs 0 0 (MQ below (mQi D cy ad σ out) args s 0 0 (gA ad)) (F0 m pc ls [.int v]) := by
  cases h
  exact W.iret Z.x Z.b hr (fun t ht _ => ⟨⟨v, τ, rfl, rfl, by dsimp only; rw [ht]; exact hP⟩, hS.F ht⟩) hS.2.2 hdg hlk
theorem zmz (Z : Zc p s m c cc nL own D cy ad) (hP : va_P D vwCl (gW cy ad σ τ) H) (hS : va_S (gA ad) s.heap H locs) (hr : meth.sig.returnType = some .boolean) (hlk : meth.locks = false) {v : Int32} {out : Int32 × Sx} (h : (rtZ v).bind (fun v => some (v, τ)) = some out) (hdg : decode cc pc = .ok (.ireturn, 1)) : W p l e R s m args below meth c H locs 0 0 (MQ below (mQi D cy ad σ out) args s 0 0 (gA ad)) (F0 m pc ls [.int v]) := by
  unfold rtZ at h
  split at h
  · next hz =>
    cases h
    exact W.zret Z.x Z.b hr (by rcases hz with rfl | rfl <;> rfl) (fun t ht _ => ⟨⟨v, τ, rfl, rfl, by dsimp only; rw [ht]; exact hP⟩, hS.F ht⟩) hS.2.2 hdg hlk
  · cases h
theorem zmzc (Z : Zc p s m c cc nL own D cy ad) (hP : va_P D vwCl (gW cy ad σ τ) H) (hS : va_S (gA ad) s.heap H locs) (hr : meth.sig.returnType = some .boolean) (hlk : meth.locks = false) {v : Int32} {out : Int32 × Sx} (hz : v = 0 ∨ v = 1) (h : some (v, τ) = some out) (hdg : decode cc pc = .ok (.ireturn, 1)) : W p l e R s m args below meth c H locs 0 0 (MQ below (mQi D cy ad σ out) args s 0 0 (gA ad)) (F0 m pc ls [.int v]) :=
  zmz Z hP hS hr hlk (by unfold rtZ; rw [if_pos hz]; exact h) hdg
theorem zml (Z : Zc p s m c cc nL own D cy ad) (hP : va_P D vwCl (gW cy ad σ τ) H) (hS : va_S (gA ad) s.heap H locs) (hr : meth.sig.returnType = some .long) (hlk : meth.locks = false) {v : Int64} {out : Int64 × Sx} (h : some (v, τ) = some out) (hdg : decode cc pc = .ok (.lreturn, 1)) : W p l e R s m args below meth c H locs 0 0 (MQ below (mQl D cy ad σ out) args s 0 0 (gA ad)) (F0 m pc ls [.long v]) := by
  cases h
  exact W.lret Z.x Z.b hr (fun t ht _ => ⟨⟨v, τ, rfl, rfl, by dsimp only; rw [ht]; exact hP⟩, hS.F ht⟩) hS.2.2 hdg hlk
theorem zmv (Z : Zc p s m c cc nL own D cy ad) (hP : va_P D vwCl (gW cy ad σ τ) H) (hS : va_S (gA ad) s.heap H locs) (hr : meth.sig.returnType = none) (hlk : meth.locks = false) {out : Sx} (h : some τ = some out) (hdg : decode cc pc = .ok (.return_, 1)) : W p l e R s m args below meth c H locs 0 0 (MQ below (mQv D cy ad σ out) args s 0 0 (gA ad)) (F0 m pc ls []) := by
  cases h
  exact W.vret Z.x Z.b hr (fun t ht _ => ⟨⟨τ, rfl, rfl, by dsimp only; rw [ht]; exact hP⟩, hS.F ht⟩) hS.2.2 hdg hlk
theorem gGood {y : MethodName} {bytes : ByteArray} {maxL : Nat} {ret : Option FieldType} : ([Cond.code y bytes maxL ret] : List Cond).all goodWord = true := rfl
theorem g1 {y : MethodName} {bytes : ByteArray} {maxL : Nat} {ret : Option FieldType} : GoodIn [Cond.code y bytes maxL ret] [Cond.code y bytes maxL ret] := fun w hw => ⟨hw, good_of_word (List.all_eq_true.mp gGood w hw)⟩
theorem gPre (Z : Zc p s m c cc nL own D cy ad) (hP : va_P D vwCl (gW cy ad σ τ) H) (av : List Value) : PreS s H (va_Pc av (gB D cy ad σ τ)) av :=
  ⟨gB_blind, fun U hU hW => ⟨rfl, by rw [hU]; exact hP, va_K.moved hW.alike Z.k, Z.t.moved hW⟩⟩
theorem zrunV (Z : Zc p s m c cc nL own D cy ad) (hP : va_P D vwCl (gW cy ad σ τ) H) {y : MethodName} {bytes : ByteArray} {maxL n index : Nat} {ret : Option FieldType} {rm : Room} {Qc : Array Value → State → Outcome → State → Prop} {free : Addr → Prop} {C : String} {b : Nat} {As st : List Value} (hM : Met l y [Cond.code y bytes maxL ret] rm (va_Pc (.ref b :: As) (gB D cy ad σ τ)) Qc 0 0 free) (cv : CVw own index C y bytes maxL ret n) (hrc : rm.cells = 0) (hrs : rm.slots = 0) (hR : rm.frames + 1 ≤ R.frames ∧ 8 + (maxL + 11) + rm.locals ≤ R.locals)
    (q0 : Nat) {ci : Nat} {fs : List Value} {qc : vw_C} (he : (gW cy ad σ τ)[q0]? = some (b, .inr (ci, fs))) (hc : vwCl[ci]? = some qc) (hC : qc.1 = C) (hn : As.length = n) (hsize : ls.size = nL) (hst : st = As.reverse ++ .ref b :: rest) (hW : (rest.map fun v => v.category).sum ≤ 8) (hdg : decode cc pc = .ok (.invokevirtual index, 3)) (hcl : cells ≤ R.cells ∧ slots ≤ R.slots) :
    va_Run p l e R s m args below meth c H locs cells slots 0 0 (F0 m pc ls st) rest (Qc (Value.ref b :: As).toArray) free := by
  obtain ⟨⟨w1, w2, w3, w4, w5⟩, hd⟩ := cv
  subst hC
  have hts : ∀ w ∈ [Cond.code y bytes maxL ret], w.before args s = true := fun w hw => by rw [List.mem_singleton.mp hw]; exact Z.t _ w5 rfl args
  obtain ⟨hd0, hd1⟩ := hd
  exact va_runV ⟨Z.x, Z.b, Z.ml, Z.o, hts⟩ hM ⟨callB_of n hts g1 rfl hrc hrs (by rw [hd0]; exact Z.t _ w4 rfl args) (Z.t _ w1 rfl args) hd1 hR, Z.t _ w2 rfl args, Z.t _ w3 rfl args⟩ ⟨(gPre Z hP (.ref b :: As)).1, va_recv Z.k hP hc he, (gPre Z hP (.ref b :: As)).2⟩ rfl hn hsize hst (by show 2 * 0 + _ ≤ 8; omega) hdg hcl
theorem zrunS (Z : Zc p s m c cc nL own D cy ad) (hP : va_P D vwCl (gW cy ad σ τ) H) {y : MethodName} {bytes : ByteArray} {maxL n index : Nat} {ret : Option FieldType} {rm : Room} {Qc : Array Value → State → Outcome → State → Prop} {free : Addr → Prop} {As st : List Value} (hM : Met l y [Cond.code y bytes maxL ret] rm (va_Pc As (gB D cy ad σ τ)) Qc 0 0 free) (cv : CSw own index y bytes maxL ret n) (hrc : rm.cells = 0) (hrs : rm.slots = 0) (hR : rm.frames + 1 ≤ R.frames ∧ 8 + (maxL + 11) + rm.locals ≤ R.locals)
    (hn : As.length = n) (hsize : ls.size = nL) (hst : st = As.reverse ++ rest) (hW : (rest.map fun v => v.category).sum ≤ 8) (hdg : decode cc pc = .ok (.invokestatic index, 3)) (hcl : cells ≤ R.cells ∧ slots ≤ R.slots) :
    va_Run p l e R s m args below meth c H locs cells slots 0 0 (F0 m pc ls st) rest (Qc As.toArray) free := by
  obtain ⟨⟨w1, w2, w4, w5⟩, hd⟩ := cv
  have hts : ∀ w ∈ [Cond.code y bytes maxL ret], w.before args s = true := fun w hw => by rw [List.mem_singleton.mp hw]; exact Z.t _ w5 rfl args
  exact va_runS ⟨Z.x, Z.b, Z.ml, Z.o, hts⟩ hM ⟨callB_of n hts g1 rfl hrc hrs (Z.t _ w4 rfl args) (Z.t _ w1 rfl args) hd hR, Z.t _ w2 rfl args⟩ (gPre Z hP As) rfl hn hsize hst (by show 2 * 0 + _ ≤ 8; omega) hdg hcl
theorem zrunSN (Z : Zc p s m c cc nL own D cy ad) (hP : va_P D vwCl (gW cy ad σ τ) H) {y : MethodName} {bytes : ByteArray} {maxL n index : Nat} {ret : Option FieldType} {rm : Room} {Qc : Array Value → State → Outcome → State → Prop} {free : Addr → Prop} {host : String} {As st : List Value} (hM : Met l y [Cond.code y bytes maxL ret] rm (va_Pc As (gB D cy ad σ τ)) Qc 0 0 free) (cv : CSn own index host y bytes maxL ret n) (hrc : rm.cells = 0) (hrs : rm.slots = 0) (hR : rm.frames + 1 ≤ R.frames ∧ 8 + (maxL + 11) + rm.locals ≤ R.locals)
    (hn : As.length = n) (hsize : ls.size = nL) (hst : st = As.reverse ++ rest) (hW : (rest.map fun v => v.category).sum ≤ 8) (hdg : decode cc pc = .ok (.invokestatic index, 3)) (hcl : cells ≤ R.cells ∧ slots ≤ R.slots) :
    va_Run p l e R s m args below meth c H locs cells slots 0 0 (F0 m pc ls st) rest (Qc As.toArray) free := by
  obtain ⟨⟨w1, w2, w4, w5⟩, hd⟩ := cv
  have hts : ∀ w ∈ [Cond.code y bytes maxL ret], w.before args s = true := fun w hw => by rw [List.mem_singleton.mp hw]; exact Z.t _ w5 rfl args
  exact va_runSN ⟨Z.x, Z.b, Z.ml, Z.o, hts⟩ hM ⟨va_cnB n hts g1 rfl hrc hrs (va_Nw.of (A := args) rfl (Z.t _ w1 rfl args)) (Z.t _ w4 rfl args) hd hR, Z.t _ w2 rfl args, trivial⟩ (gPre Z hP As) rfl hn hsize hst (by show 2 * 0 + _ ≤ 8; omega) hdg hcl
/-! calls: going on -/
variable {a : Array Value} {st0 : List Value}
theorem zqi {out : Int32} (hr : va_Run p l e R s m args below meth c H locs cells slots 0 0 (F0 m pc ls st0) rest (rQi out a) noA) (kk : W p l e R s m args below meth c H locs cells slots Q (F0 m (pc + 3) ls (.int out :: rest))) : W p l e R s m args below meth c H locs cells slots Q (F0 m pc ls st0) :=
  vp_callSi (post := fun r => r = out) (va_Run.run hr) (fun r h => by cases h; exact kk)
theorem zql {out : Int64} (hr : va_Run p l e R s m args below meth c H locs cells slots 0 0 (F0 m pc ls st0) rest (rQl out a) noA) (kk : W p l e R s m args below meth c H locs cells slots Q (F0 m (pc + 3) ls (.long out :: rest))) : W p l e R s m args below meth c H locs cells slots Q (F0 m pc ls st0) :=
  vp_callSl (post := fun r => r = out) (va_Run.run hr) (fun r h => by cases h; exact kk)
theorem zwci {q : Int32 × Sx} (hr : va_Run p l e R s m args below meth c H locs cells slots 0 0 (F0 m pc ls st0) rest (cQi D cy ad τ q a) (gA ad)) (hS : va_S (gA ad) s.heap H locs) (kk : ∀ (H1 : Heap) (locs1 : List Loc), va_P D vwCl (gW cy ad q.2 τ) H1 → va_S (gA ad) s.heap H1 locs1 → W p l e R s m args below meth c H1 locs1 cells slots Q (F0 m (pc + 3) ls (.int q.1 :: rest))) : W p l e R s m args below meth c H locs cells slots Q (F0 m pc ls st0) :=
  va_calli (hr : va_Run p l e R s m args below meth c H locs cells slots 0 0 (F0 m pc ls st0) rest (va_Qi (fun r' u => (r', u) = q) (fun u t => va_P D vwCl (gW cy ad u τ) t.heap) (gA ad) a) (gA ad)) hS (fun _ _ h => h) (fun _ h => h) (fun r' u t H1 locs1 ht _ hp hB _ _ hS1 => by cases hp; rw [ht] at hB; exact kk H1 locs1 hB hS1)
theorem zwcv {σ1 : Sx} (hr : va_Run p l e R s m args below meth c H locs cells slots 0 0 (F0 m pc ls st0) rest (cQv D cy ad τ σ1 a) (gA ad)) (hS : va_S (gA ad) s.heap H locs) (kk : ∀ (H1 : Heap) (locs1 : List Loc), va_P D vwCl (gW cy ad σ1 τ) H1 → va_S (gA ad) s.heap H1 locs1 → W p l e R s m args below meth c H1 locs1 cells slots Q (F0 m (pc + 3) ls rest)) : W p l e R s m args below meth c H locs cells slots Q (F0 m pc ls st0) :=
  va_callv (hr : va_Run p l e R s m args below meth c H locs cells slots 0 0 (F0 m pc ls st0) rest (va_Qv (fun u => u = σ1) (fun u t => va_P D vwCl (gW cy ad u τ) t.heap) (gA ad) a) (gA ad)) hS (fun _ _ h => h) (fun _ h => h) (fun u t H1 locs1 ht _ hp hB _ _ hS1 => by cases hp; rw [ht] at hB; exact kk H1 locs1 hB hS1)
theorem zwmi {q : Int32 × Sx} (hr : va_Run p l e R s m args below meth c H locs cells slots 0 0 (F0 m pc ls st0) rest (mQi D cy ad σ q a) (gA ad)) (hS : va_S (gA ad) s.heap H locs) (kk : ∀ (H1 : Heap) (locs1 : List Loc), va_P D vwCl (gW cy ad σ q.2) H1 → va_S (gA ad) s.heap H1 locs1 → W p l e R s m args below meth c H1 locs1 cells slots Q (F0 m (pc + 3) ls (.int q.1 :: rest))) : W p l e R s m args below meth c H locs cells slots Q (F0 m pc ls st0) :=
  va_calli (hr : va_Run p l e R s m args below meth c H locs cells slots 0 0 (F0 m pc ls st0) rest (va_Qi (fun r' u => (r', u) = q) (fun u t => va_P D vwCl (gW cy ad σ u) t.heap) (gA ad) a) (gA ad)) hS (fun _ _ h => h) (fun _ h => h) (fun r' u t H1 locs1 ht _ hp hB _ _ hS1 => by cases hp; rw [ht] at hB; exact kk H1 locs1 hB hS1)
theorem zwml {q : Int64 × Sx} (hr : va_Run p l e R s m args below meth c H locs cells slots 0 0 (F0 m pc ls st0) rest (mQl D cy ad σ q a) (gA ad)) (hS : va_S (gA ad) s.heap H locs) (kk : ∀ (H1 : Heap) (locs1 : List Loc), va_P D vwCl (gW cy ad σ q.2) H1 → va_S (gA ad) s.heap H1 locs1 → W p l e R s m args below meth c H1 locs1 cells slots Q (F0 m (pc + 3) ls (.long q.1 :: rest))) : W p l e R s m args below meth c H locs cells slots Q (F0 m pc ls st0) :=
  va_calll (hr : va_Run p l e R s m args below meth c H locs cells slots 0 0 (F0 m pc ls st0) rest (va_Ql (fun r' u => (r', u) = q) (fun u t => va_P D vwCl (gW cy ad σ u) t.heap) (gA ad) a) (gA ad)) hS (fun _ _ h => h) (fun _ h => h) (fun r' u t H1 locs1 ht _ hp hB _ _ hS1 => by cases hp; rw [ht] at hB; exact kk H1 locs1 hB hS1)
theorem zwmv {τ1 : Sx} (hr : va_Run p l e R s m args below meth c H locs cells slots 0 0 (F0 m pc ls st0) rest (mQv D cy ad σ τ1 a) (gA ad)) (hS : va_S (gA ad) s.heap H locs) (kk : ∀ (H1 : Heap) (locs1 : List Loc), va_P D vwCl (gW cy ad σ τ1) H1 → va_S (gA ad) s.heap H1 locs1 → W p l e R s m args below meth c H1 locs1 cells slots Q (F0 m (pc + 3) ls rest)) : W p l e R s m args below meth c H locs cells slots Q (F0 m pc ls st0) :=
  va_callv (hr : va_Run p l e R s m args below meth c H locs cells slots 0 0 (F0 m pc ls st0) rest (va_Qv (fun u => u = τ1) (fun u t => va_P D vwCl (gW cy ad σ u) t.heap) (gA ad) a) (gA ad)) hS (fun _ _ h => h) (fun _ h => h) (fun u t H1 locs1 ht _ hp hB _ _ hS1 => by cases hp; rw [ht] at hB; exact kk H1 locs1 hB hS1)
end ZR
end
section
section FR
variable {p : Program} {l : Launch} {e : Env} {R : Room} {s : State} {m : MethodId} {args : Array Value} {below : List Frame} {meth : Method} {c : Code} {H : Heap} {locs : List Loc} {cells slots : Nat} {Q : State → Prop}
variable {cc : ByteArray} {pc : Nat} {ls : Array Slot} {rest : List Value} {D : va_G} {cy : Nat → ClassId} {ad : Nat → Nat} {σ τ : Sx} {nL : Nat} {own : String} {index : Nat}
theorem fg_0_0 (Z : Zc p s m c cc nL own D cy ad) (hP : va_P D vwCl (gW cy ad σ τ) H) (hw : Cond.fieldLink own index "OneSocket" "told" "LOneSocket$Told;" ∈ lw_tbl) (hdg : decode cc pc = .ok (.getfield index, 3)) (kk : W p l e R s m args below meth c H locs cells slots Q (F0 m (pc + 3) ls (.ref (ad 1) :: rest))) : W p l e R s m args below meth c H locs cells slots Q (F0 m pc ls (.ref (ad 0) :: rest)) := zget Z hP 0 (gW_o rfl) (C := RX11) rfl inX11 0 (by decide) rfl hw rfl hdg kk
theorem fgN_0_0 {host : String} (Z : Zc p s m c cc nL own D cy ad) (hP : va_P D vwCl (gW cy ad σ τ) H) (hw : Cond.fieldLinkNest own index "OneSocket" "told" "LOneSocket$Told;" host ∈ lw_tbl) (hdg : decode cc pc = .ok (.getfield index, 3)) (kk : W p l e R s m args below meth c H locs cells slots Q (F0 m (pc + 3) ls (.ref (ad 1) :: rest))) : W p l e R s m args below meth c H locs cells slots Q (F0 m pc ls (.ref (ad 0) :: rest)) := zgetN Z hP 0 (gW_o rfl) (C := RX11) rfl inX11 0 (by decide) rfl hw rfl hdg kk
theorem fg_0_1 (Z : Zc p s m c cc nL own D cy ad) (hP : va_P D vwCl (gW cy ad σ τ) H) (hw : Cond.fieldLink own index "OneSocket" "draft" "LOneSocket$Told;" ∈ lw_tbl) (hdg : decode cc pc = .ok (.getfield index, 3)) (kk : W p l e R s m args below meth c H locs cells slots Q (F0 m (pc + 3) ls (.ref (ad 2) :: rest))) : W p l e R s m args below meth c H locs cells slots Q (F0 m pc ls (.ref (ad 0) :: rest)) := zget Z hP 0 (gW_o rfl) (C := RX11) rfl inX11 1 (by decide) rfl hw rfl hdg kk
theorem fg_0_2 (Z : Zc p s m c cc nL own D cy ad) (hP : va_P D vwCl (gW cy ad σ τ) H) (hw : Cond.fieldLink own index "OneSocket" "text" "LOneSocket$Reader;" ∈ lw_tbl) (hdg : decode cc pc = .ok (.getfield index, 3)) (kk : W p l e R s m args below meth c H locs cells slots Q (F0 m (pc + 3) ls (.ref (ad 3) :: rest))) : W p l e R s m args below meth c H locs cells slots Q (F0 m pc ls (.ref (ad 0) :: rest)) := zget Z hP 0 (gW_o rfl) (C := RX11) rfl inX11 2 (by decide) rfl hw rfl hdg kk
theorem fg_0_3 (Z : Zc p s m c cc nL own D cy ad) (hP : va_P D vwCl (gW cy ad σ τ) H) (hw : Cond.fieldLink own index "OneSocket" "state" "LOneSocket$Now;" ∈ lw_tbl) (hdg : decode cc pc = .ok (.getfield index, 3)) (kk : W p l e R s m args below meth c H locs cells slots Q (F0 m (pc + 3) ls (.ref (ad 4) :: rest))) : W p l e R s m args below meth c H locs cells slots Q (F0 m pc ls (.ref (ad 0) :: rest)) := zget Z hP 0 (gW_o rfl) (C := RX11) rfl inX11 3 (by decide) rfl hw rfl hdg kk
theorem fgN_0_3 {host : String} (Z : Zc p s m c cc nL own D cy ad) (hP : va_P D vwCl (gW cy ad σ τ) H) (hw : Cond.fieldLinkNest own index "OneSocket" "state" "LOneSocket$Now;" host ∈ lw_tbl) (hdg : decode cc pc = .ok (.getfield index, 3)) (kk : W p l e R s m args below meth c H locs cells slots Q (F0 m (pc + 3) ls (.ref (ad 4) :: rest))) : W p l e R s m args below meth c H locs cells slots Q (F0 m pc ls (.ref (ad 0) :: rest)) := zgetN Z hP 0 (gW_o rfl) (C := RX11) rfl inX11 3 (by decide) rfl hw rfl hdg kk
theorem fg_0_4 (Z : Zc p s m c cc nL own D cy ad) (hP : va_P D vwCl (gW cy ad σ τ) H) (hw : Cond.fieldLink own index "OneSocket" "book" "LOneSocket$Book;" ∈ lw_tbl) (hdg : decode cc pc = .ok (.getfield index, 3)) (kk : W p l e R s m args below meth c H locs cells slots Q (F0 m (pc + 3) ls (.ref (ad 5) :: rest))) : W p l e R s m args below meth c H locs cells slots Q (F0 m pc ls (.ref (ad 0) :: rest)) := zget Z hP 0 (gW_o rfl) (C := RX11) rfl inX11 4 (by decide) rfl hw rfl hdg kk
theorem fg_0_5 (Z : Zc p s m c cc nL own D cy ad) (hP : va_P D vwCl (gW cy ad σ τ) H) (hw : Cond.fieldLink own index "OneSocket" "planner" "LOneSocket$Planner;" ∈ lw_tbl) (hdg : decode cc pc = .ok (.getfield index, 3)) (kk : W p l e R s m args below meth c H locs cells slots Q (F0 m (pc + 3) ls (.ref (ad 6) :: rest))) : W p l e R s m args below meth c H locs cells slots Q (F0 m pc ls (.ref (ad 0) :: rest)) := zget Z hP 0 (gW_o rfl) (C := RX11) rfl inX11 5 (by decide) rfl hw rfl hdg kk
theorem fg_0_6 (Z : Zc p s m c cc nL own D cy ad) (hP : va_P D vwCl (gW cy ad σ τ) H) (hw : Cond.fieldLink own index "OneSocket" "kinds" "[LOneSocket$Telephone;" ∈ lw_tbl) (hdg : decode cc pc = .ok (.getfield index, 3)) (kk : W p l e R s m args below meth c H locs cells slots Q (F0 m (pc + 3) ls (.ref (ad 13) :: rest))) : W p l e R s m args below meth c H locs cells slots Q (F0 m pc ls (.ref (ad 0) :: rest)) := zget Z hP 0 (gW_o rfl) (C := RX11) rfl inX11 6 (by decide) rfl hw rfl hdg kk
theorem fg_0_7 (Z : Zc p s m c cc nL own D cy ad) (hP : va_P D vwCl (gW cy ad σ τ) H) (hw : Cond.fieldLink own index "OneSocket" "images" "[[I" ∈ lw_tbl) (hdg : decode cc pc = .ok (.getfield index, 3)) (kk : W p l e R s m args below meth c H locs cells slots Q (F0 m (pc + 3) ls (.ref (ad 14) :: rest))) : W p l e R s m args below meth c H locs cells slots Q (F0 m pc ls (.ref (ad 0) :: rest)) := zget Z hP 0 (gW_o rfl) (C := RX11) rfl inX11 7 (by decide) rfl hw rfl hdg kk
theorem fg_0_8 (Z : Zc p s m c cc nL own D cy ad) (hP : va_P D vwCl (gW cy ad σ τ) H) (hw : Cond.fieldLink own index "OneSocket" "kept" "[Z" ∈ lw_tbl) (hdg : decode cc pc = .ok (.getfield index, 3)) (kk : W p l e R s m args below meth c H locs cells slots Q (F0 m (pc + 3) ls (.ref (ad 18) :: rest))) : W p l e R s m args below meth c H locs cells slots Q (F0 m pc ls (.ref (ad 0) :: rest)) := zget Z hP 0 (gW_o rfl) (C := RX11) rfl inX11 8 (by decide) rfl hw rfl hdg kk
theorem fg_0_9 (Z : Zc p s m c cc nL own D cy ad) (hP : va_P D vwCl (gW cy ad σ τ) H) (hw : Cond.fieldLink own index "OneSocket" "saidPhone" "[I" ∈ lw_tbl) (hdg : decode cc pc = .ok (.getfield index, 3)) (kk : W p l e R s m args below meth c H locs cells slots Q (F0 m (pc + 3) ls (.ref (ad 38) :: rest))) : W p l e R s m args below meth c H locs cells slots Q (F0 m pc ls (.ref (ad 0) :: rest)) := zget Z hP 0 (gW_o rfl) (C := RX11) rfl inX11 9 (by decide) rfl hw rfl hdg kk
theorem fg_0_10 (Z : Zc p s m c cc nL own D cy ad) (hP : va_P D vwCl (gW cy ad σ τ) H) (hw : Cond.fieldLink own index "OneSocket" "saidFirst" "[I" ∈ lw_tbl) (hdg : decode cc pc = .ok (.getfield index, 3)) (kk : W p l e R s m args below meth c H locs cells slots Q (F0 m (pc + 3) ls (.ref (ad 39) :: rest))) : W p l e R s m args below meth c H locs cells slots Q (F0 m pc ls (.ref (ad 0) :: rest)) := zget Z hP 0 (gW_o rfl) (C := RX11) rfl inX11 10 (by decide) rfl hw rfl hdg kk
theorem fg_0_11 (Z : Zc p s m c cc nL own D cy ad) (hP : va_P D vwCl (gW cy ad σ τ) H) (hw : Cond.fieldLink own index "OneSocket" "saidTurns" "[I" ∈ lw_tbl) (hdg : decode cc pc = .ok (.getfield index, 3)) (kk : W p l e R s m args below meth c H locs cells slots Q (F0 m (pc + 3) ls (.ref (ad 40) :: rest))) : W p l e R s m args below meth c H locs cells slots Q (F0 m pc ls (.ref (ad 0) :: rest)) := zget Z hP 0 (gW_o rfl) (C := RX11) rfl inX11 11 (by decide) rfl hw rfl hdg kk
theorem fg_0_12 (Z : Zc p s m c cc nL own D cy ad) (hP : va_P D vwCl (gW cy ad σ τ) H) (hw : Cond.fieldLink own index "OneSocket" "saidThen" "[I" ∈ lw_tbl) (hdg : decode cc pc = .ok (.getfield index, 3)) (kk : W p l e R s m args below meth c H locs cells slots Q (F0 m (pc + 3) ls (.ref (ad 41) :: rest))) : W p l e R s m args below meth c H locs cells slots Q (F0 m pc ls (.ref (ad 0) :: rest)) := zget Z hP 0 (gW_o rfl) (C := RX11) rfl inX11 12 (by decide) rfl hw rfl hdg kk
theorem fg_0_13 (Z : Zc p s m c cc nL own D cy ad) (hP : va_P D vwCl (gW cy ad σ τ) H) (hw : Cond.fieldLink own index "OneSocket" "lines" "I" ∈ lw_tbl) (hdg : decode cc pc = .ok (.getfield index, 3)) (kk : W p l e R s m args below meth c H locs cells slots Q (F0 m (pc + 3) ls (.int (σ.1 23) :: rest))) : W p l e R s m args below meth c H locs cells slots Q (F0 m pc ls (.ref (ad 0) :: rest)) := zget Z hP 0 (gW_o rfl) (C := RX11) rfl inX11 13 (by decide) rfl hw rfl hdg kk
theorem fp_0_13 {v : Int32} (Z : Zc p s m c cc nL own D cy ad) (hP : va_P D vwCl (gW cy ad σ τ) H) (hS : va_S (gA ad) s.heap H locs) (hw : Cond.fieldLink own index "OneSocket" "lines" "I" ∈ lw_tbl) (hdg : decode cc pc = .ok (.putfield index, 3)) (kk : ∀ (H1 : Heap) (locs1 : List Loc), va_P D vwCl (gW cy ad (sg σ 23 v) τ) H1 → va_S (gA ad) s.heap H1 locs1 → W p l e R s m args below meth c H1 locs1 cells slots Q (F0 m (pc + 3) ls rest)) : W p l e R s m args below meth c H locs cells slots Q (F0 m pc ls (.int v :: .ref (ad 0) :: rest)) := zput Z hP hS 0 (gW_o rfl) (C := RX11) rfl inX11 tyX11_ok nmX11 13 (by decide) rfl rfl hw rfl rfl (Nat.le_of_ble_eq_true rfl) (gS_o (σ' := (sg σ 23 v)) (by decide) rfl (Or.inl rfl)) hdg kk
theorem fg_0_14 (Z : Zc p s m c cc nL own D cy ad) (hP : va_P D vwCl (gW cy ad σ τ) H) (hw : Cond.fieldLink own index "OneSocket" "traced" "J" ∈ lw_tbl) (hdg : decode cc pc = .ok (.getfield index, 3)) (kk : W p l e R s m args below meth c H locs cells slots Q (F0 m (pc + 3) ls (.long σ.2.1 :: rest))) : W p l e R s m args below meth c H locs cells slots Q (F0 m pc ls (.ref (ad 0) :: rest)) := zget Z hP 0 (gW_o rfl) (C := RX11) rfl inX11 14 (by decide) rfl hw rfl hdg kk
theorem fp_0_14 {v : Int64} (Z : Zc p s m c cc nL own D cy ad) (hP : va_P D vwCl (gW cy ad σ τ) H) (hS : va_S (gA ad) s.heap H locs) (hw : Cond.fieldLink own index "OneSocket" "traced" "J" ∈ lw_tbl) (hdg : decode cc pc = .ok (.putfield index, 3)) (kk : ∀ (H1 : Heap) (locs1 : List Loc), va_P D vwCl (gW cy ad (sl σ v) τ) H1 → va_S (gA ad) s.heap H1 locs1 → W p l e R s m args below meth c H1 locs1 cells slots Q (F0 m (pc + 3) ls rest)) : W p l e R s m args below meth c H locs cells slots Q (F0 m pc ls (.long v :: .ref (ad 0) :: rest)) := zput Z hP hS 0 (gW_o rfl) (C := RX11) rfl inX11 tyX11_ok nmX11 14 (by decide) rfl rfl hw rfl rfl (Nat.le_of_ble_eq_true rfl) (gS_o (σ' := (sl σ v)) (by decide) rfl (Or.inl rfl)) hdg kk
theorem fgN_0_14 {host : String} (Z : Zc p s m c cc nL own D cy ad) (hP : va_P D vwCl (gW cy ad σ τ) H) (hw : Cond.fieldLinkNest own index "OneSocket" "traced" "J" host ∈ lw_tbl) (hdg : decode cc pc = .ok (.getfield index, 3)) (kk : W p l e R s m args below meth c H locs cells slots Q (F0 m (pc + 3) ls (.long σ.2.1 :: rest))) : W p l e R s m args below meth c H locs cells slots Q (F0 m pc ls (.ref (ad 0) :: rest)) := zgetN Z hP 0 (gW_o rfl) (C := RX11) rfl inX11 14 (by decide) rfl hw rfl hdg kk
theorem fpN_0_14 {host : String} {v : Int64} (Z : Zc p s m c cc nL own D cy ad) (hP : va_P D vwCl (gW cy ad σ τ) H) (hS : va_S (gA ad) s.heap H locs) (hw : Cond.fieldLinkNest own index "OneSocket" "traced" "J" host ∈ lw_tbl) (hdg : decode cc pc = .ok (.putfield index, 3)) (kk : ∀ (H1 : Heap) (locs1 : List Loc), va_P D vwCl (gW cy ad (sl σ v) τ) H1 → va_S (gA ad) s.heap H1 locs1 → W p l e R s m args below meth c H1 locs1 cells slots Q (F0 m (pc + 3) ls rest)) : W p l e R s m args below meth c H locs cells slots Q (F0 m pc ls (.long v :: .ref (ad 0) :: rest)) := zputN Z hP hS 0 (gW_o rfl) (C := RX11) rfl inX11 tyX11_ok nmX11 14 (by decide) rfl rfl hw rfl rfl (Nat.le_of_ble_eq_true rfl) (gS_o (σ' := (sl σ v)) (by decide) rfl (Or.inl rfl)) hdg kk
theorem fg_1_0 (Z : Zc p s m c cc nL own D cy ad) (hP : va_P D vwCl (gW cy ad σ τ) H) (hw : Cond.fieldLink own index "OneSocket$Told" "phones" "I" ∈ lw_tbl) (hdg : decode cc pc = .ok (.getfield index, 3)) (kk : W p l e R s m args below meth c H locs cells slots Q (F0 m (pc + 3) ls (.int (σ.1 0) :: rest))) : W p l e R s m args below meth c H locs cells slots Q (F0 m pc ls (.ref (ad 1) :: rest)) := zget Z hP 1 (gW_o rfl) (C := RX10) rfl inX10 0 (by decide) rfl hw rfl hdg kk
theorem fp_1_0 {v : Int32} (Z : Zc p s m c cc nL own D cy ad) (hP : va_P D vwCl (gW cy ad σ τ) H) (hS : va_S (gA ad) s.heap H locs) (hw : Cond.fieldLink own index "OneSocket$Told" "phones" "I" ∈ lw_tbl) (hdg : decode cc pc = .ok (.putfield index, 3)) (kk : ∀ (H1 : Heap) (locs1 : List Loc), va_P D vwCl (gW cy ad (sg σ 0 v) τ) H1 → va_S (gA ad) s.heap H1 locs1 → W p l e R s m args below meth c H1 locs1 cells slots Q (F0 m (pc + 3) ls rest)) : W p l e R s m args below meth c H locs cells slots Q (F0 m pc ls (.int v :: .ref (ad 1) :: rest)) := zput Z hP hS 1 (gW_o rfl) (C := RX10) rfl inX10 tyX10_ok nmX10 0 (by decide) rfl rfl hw rfl rfl (Nat.le_of_ble_eq_true rfl) (gS_o (σ' := (sg σ 0 v)) (by decide) rfl (Or.inl rfl)) hdg kk
theorem fg_1_1 (Z : Zc p s m c cc nL own D cy ad) (hP : va_P D vwCl (gW cy ad σ τ) H) (hw : Cond.fieldLink own index "OneSocket$Told" "holes" "I" ∈ lw_tbl) (hdg : decode cc pc = .ok (.getfield index, 3)) (kk : W p l e R s m args below meth c H locs cells slots Q (F0 m (pc + 3) ls (.int (σ.1 1) :: rest))) : W p l e R s m args below meth c H locs cells slots Q (F0 m pc ls (.ref (ad 1) :: rest)) := zget Z hP 1 (gW_o rfl) (C := RX10) rfl inX10 1 (by decide) rfl hw rfl hdg kk
theorem fp_1_1 {v : Int32} (Z : Zc p s m c cc nL own D cy ad) (hP : va_P D vwCl (gW cy ad σ τ) H) (hS : va_S (gA ad) s.heap H locs) (hw : Cond.fieldLink own index "OneSocket$Told" "holes" "I" ∈ lw_tbl) (hdg : decode cc pc = .ok (.putfield index, 3)) (kk : ∀ (H1 : Heap) (locs1 : List Loc), va_P D vwCl (gW cy ad (sg σ 1 v) τ) H1 → va_S (gA ad) s.heap H1 locs1 → W p l e R s m args below meth c H1 locs1 cells slots Q (F0 m (pc + 3) ls rest)) : W p l e R s m args below meth c H locs cells slots Q (F0 m pc ls (.int v :: .ref (ad 1) :: rest)) := zput Z hP hS 1 (gW_o rfl) (C := RX10) rfl inX10 tyX10_ok nmX10 1 (by decide) rfl rfl hw rfl rfl (Nat.le_of_ble_eq_true rfl) (gS_o (σ' := (sg σ 1 v)) (by decide) rfl (Or.inl rfl)) hdg kk
theorem fg_1_2 (Z : Zc p s m c cc nL own D cy ad) (hP : va_P D vwCl (gW cy ad σ τ) H) (hw : Cond.fieldLink own index "OneSocket$Told" "calls" "I" ∈ lw_tbl) (hdg : decode cc pc = .ok (.getfield index, 3)) (kk : W p l e R s m args below meth c H locs cells slots Q (F0 m (pc + 3) ls (.int (σ.1 2) :: rest))) : W p l e R s m args below meth c H locs cells slots Q (F0 m pc ls (.ref (ad 1) :: rest)) := zget Z hP 1 (gW_o rfl) (C := RX10) rfl inX10 2 (by decide) rfl hw rfl hdg kk
theorem fp_1_2 {v : Int32} (Z : Zc p s m c cc nL own D cy ad) (hP : va_P D vwCl (gW cy ad σ τ) H) (hS : va_S (gA ad) s.heap H locs) (hw : Cond.fieldLink own index "OneSocket$Told" "calls" "I" ∈ lw_tbl) (hdg : decode cc pc = .ok (.putfield index, 3)) (kk : ∀ (H1 : Heap) (locs1 : List Loc), va_P D vwCl (gW cy ad (sg σ 2 v) τ) H1 → va_S (gA ad) s.heap H1 locs1 → W p l e R s m args below meth c H1 locs1 cells slots Q (F0 m (pc + 3) ls rest)) : W p l e R s m args below meth c H locs cells slots Q (F0 m pc ls (.int v :: .ref (ad 1) :: rest)) := zput Z hP hS 1 (gW_o rfl) (C := RX10) rfl inX10 tyX10_ok nmX10 2 (by decide) rfl rfl hw rfl rfl (Nat.le_of_ble_eq_true rfl) (gS_o (σ' := (sg σ 2 v)) (by decide) rfl (Or.inl rfl)) hdg kk
theorem fg_1_3 (Z : Zc p s m c cc nL own D cy ad) (hP : va_P D vwCl (gW cy ad σ τ) H) (hw : Cond.fieldLink own index "OneSocket$Told" "darks" "I" ∈ lw_tbl) (hdg : decode cc pc = .ok (.getfield index, 3)) (kk : W p l e R s m args below meth c H locs cells slots Q (F0 m (pc + 3) ls (.int (σ.1 3) :: rest))) : W p l e R s m args below meth c H locs cells slots Q (F0 m pc ls (.ref (ad 1) :: rest)) := zget Z hP 1 (gW_o rfl) (C := RX10) rfl inX10 3 (by decide) rfl hw rfl hdg kk
theorem fp_1_3 {v : Int32} (Z : Zc p s m c cc nL own D cy ad) (hP : va_P D vwCl (gW cy ad σ τ) H) (hS : va_S (gA ad) s.heap H locs) (hw : Cond.fieldLink own index "OneSocket$Told" "darks" "I" ∈ lw_tbl) (hdg : decode cc pc = .ok (.putfield index, 3)) (kk : ∀ (H1 : Heap) (locs1 : List Loc), va_P D vwCl (gW cy ad (sg σ 3 v) τ) H1 → va_S (gA ad) s.heap H1 locs1 → W p l e R s m args below meth c H1 locs1 cells slots Q (F0 m (pc + 3) ls rest)) : W p l e R s m args below meth c H locs cells slots Q (F0 m pc ls (.int v :: .ref (ad 1) :: rest)) := zput Z hP hS 1 (gW_o rfl) (C := RX10) rfl inX10 tyX10_ok nmX10 3 (by decide) rfl rfl hw rfl rfl (Nat.le_of_ble_eq_true rfl) (gS_o (σ' := (sg σ 3 v)) (by decide) rfl (Or.inl rfl)) hdg kk
theorem fg_1_4 (Z : Zc p s m c cc nL own D cy ad) (hP : va_P D vwCl (gW cy ad σ τ) H) (hw : Cond.fieldLink own index "OneSocket$Told" "level" "[I" ∈ lw_tbl) (hdg : decode cc pc = .ok (.getfield index, 3)) (kk : W p l e R s m args below meth c H locs cells slots Q (F0 m (pc + 3) ls (.ref (ad 19) :: rest))) : W p l e R s m args below meth c H locs cells slots Q (F0 m pc ls (.ref (ad 1) :: rest)) := zget Z hP 1 (gW_o rfl) (C := RX10) rfl inX10 4 (by decide) rfl hw rfl hdg kk
theorem fg_1_5 (Z : Zc p s m c cc nL own D cy ad) (hP : va_P D vwCl (gW cy ad σ τ) H) (hw : Cond.fieldLink own index "OneSocket$Told" "fills" "[I" ∈ lw_tbl) (hdg : decode cc pc = .ok (.getfield index, 3)) (kk : W p l e R s m args below meth c H locs cells slots Q (F0 m (pc + 3) ls (.ref (ad 20) :: rest))) : W p l e R s m args below meth c H locs cells slots Q (F0 m pc ls (.ref (ad 1) :: rest)) := zget Z hP 1 (gW_o rfl) (C := RX10) rfl inX10 5 (by decide) rfl hw rfl hdg kk
theorem fg_1_6 (Z : Zc p s m c cc nL own D cy ad) (hP : va_P D vwCl (gW cy ad σ τ) H) (hw : Cond.fieldLink own index "OneSocket$Told" "runs" "[I" ∈ lw_tbl) (hdg : decode cc pc = .ok (.getfield index, 3)) (kk : W p l e R s m args below meth c H locs cells slots Q (F0 m (pc + 3) ls (.ref (ad 21) :: rest))) : W p l e R s m args below meth c H locs cells slots Q (F0 m pc ls (.ref (ad 1) :: rest)) := zget Z hP 1 (gW_o rfl) (C := RX10) rfl inX10 6 (by decide) rfl hw rfl hdg kk
theorem fg_1_7 (Z : Zc p s m c cc nL own D cy ad) (hP : va_P D vwCl (gW cy ad σ τ) H) (hw : Cond.fieldLink own index "OneSocket$Told" "callPhone" "[I" ∈ lw_tbl) (hdg : decode cc pc = .ok (.getfield index, 3)) (kk : W p l e R s m args below meth c H locs cells slots Q (F0 m (pc + 3) ls (.ref (ad 22) :: rest))) : W p l e R s m args below meth c H locs cells slots Q (F0 m pc ls (.ref (ad 1) :: rest)) := zget Z hP 1 (gW_o rfl) (C := RX10) rfl inX10 7 (by decide) rfl hw rfl hdg kk
theorem fg_1_8 (Z : Zc p s m c cc nL own D cy ad) (hP : va_P D vwCl (gW cy ad σ τ) H) (hw : Cond.fieldLink own index "OneSocket$Told" "callTurn" "[I" ∈ lw_tbl) (hdg : decode cc pc = .ok (.getfield index, 3)) (kk : W p l e R s m args below meth c H locs cells slots Q (F0 m (pc + 3) ls (.ref (ad 23) :: rest))) : W p l e R s m args below meth c H locs cells slots Q (F0 m pc ls (.ref (ad 1) :: rest)) := zget Z hP 1 (gW_o rfl) (C := RX10) rfl inX10 8 (by decide) rfl hw rfl hdg kk
theorem fg_1_9 (Z : Zc p s m c cc nL own D cy ad) (hP : va_P D vwCl (gW cy ad σ τ) H) (hw : Cond.fieldLink own index "OneSocket$Told" "callNeeds" "[I" ∈ lw_tbl) (hdg : decode cc pc = .ok (.getfield index, 3)) (kk : W p l e R s m args below meth c H locs cells slots Q (F0 m (pc + 3) ls (.ref (ad 24) :: rest))) : W p l e R s m args below meth c H locs cells slots Q (F0 m pc ls (.ref (ad 1) :: rest)) := zget Z hP 1 (gW_o rfl) (C := RX10) rfl inX10 9 (by decide) rfl hw rfl hdg kk
theorem fg_1_10 (Z : Zc p s m c cc nL own D cy ad) (hP : va_P D vwCl (gW cy ad σ τ) H) (hw : Cond.fieldLink own index "OneSocket$Told" "darkFrom" "[I" ∈ lw_tbl) (hdg : decode cc pc = .ok (.getfield index, 3)) (kk : W p l e R s m args below meth c H locs cells slots Q (F0 m (pc + 3) ls (.ref (ad 25) :: rest))) : W p l e R s m args below meth c H locs cells slots Q (F0 m pc ls (.ref (ad 1) :: rest)) := zget Z hP 1 (gW_o rfl) (C := RX10) rfl inX10 10 (by decide) rfl hw rfl hdg kk
theorem fg_1_11 (Z : Zc p s m c cc nL own D cy ad) (hP : va_P D vwCl (gW cy ad σ τ) H) (hw : Cond.fieldLink own index "OneSocket$Told" "darkTo" "[I" ∈ lw_tbl) (hdg : decode cc pc = .ok (.getfield index, 3)) (kk : W p l e R s m args below meth c H locs cells slots Q (F0 m (pc + 3) ls (.ref (ad 26) :: rest))) : W p l e R s m args below meth c H locs cells slots Q (F0 m pc ls (.ref (ad 1) :: rest)) := zget Z hP 1 (gW_o rfl) (C := RX10) rfl inX10 11 (by decide) rfl hw rfl hdg kk
theorem fg_2_0 (Z : Zc p s m c cc nL own D cy ad) (hP : va_P D vwCl (gW cy ad σ τ) H) (hw : Cond.fieldLink own index "OneSocket$Told" "phones" "I" ∈ lw_tbl) (hdg : decode cc pc = .ok (.getfield index, 3)) (kk : W p l e R s m args below meth c H locs cells slots Q (F0 m (pc + 3) ls (.int (σ.1 4) :: rest))) : W p l e R s m args below meth c H locs cells slots Q (F0 m pc ls (.ref (ad 2) :: rest)) := zget Z hP 2 (gW_o rfl) (C := RX10) rfl inX10 0 (by decide) rfl hw rfl hdg kk
theorem fp_2_0 {v : Int32} (Z : Zc p s m c cc nL own D cy ad) (hP : va_P D vwCl (gW cy ad σ τ) H) (hS : va_S (gA ad) s.heap H locs) (hw : Cond.fieldLink own index "OneSocket$Told" "phones" "I" ∈ lw_tbl) (hdg : decode cc pc = .ok (.putfield index, 3)) (kk : ∀ (H1 : Heap) (locs1 : List Loc), va_P D vwCl (gW cy ad (sg σ 4 v) τ) H1 → va_S (gA ad) s.heap H1 locs1 → W p l e R s m args below meth c H1 locs1 cells slots Q (F0 m (pc + 3) ls rest)) : W p l e R s m args below meth c H locs cells slots Q (F0 m pc ls (.int v :: .ref (ad 2) :: rest)) := zput Z hP hS 2 (gW_o rfl) (C := RX10) rfl inX10 tyX10_ok nmX10 0 (by decide) rfl rfl hw rfl rfl (Nat.le_of_ble_eq_true rfl) (gS_o (σ' := (sg σ 4 v)) (by decide) rfl (Or.inl rfl)) hdg kk
theorem fg_2_1 (Z : Zc p s m c cc nL own D cy ad) (hP : va_P D vwCl (gW cy ad σ τ) H) (hw : Cond.fieldLink own index "OneSocket$Told" "holes" "I" ∈ lw_tbl) (hdg : decode cc pc = .ok (.getfield index, 3)) (kk : W p l e R s m args below meth c H locs cells slots Q (F0 m (pc + 3) ls (.int (σ.1 5) :: rest))) : W p l e R s m args below meth c H locs cells slots Q (F0 m pc ls (.ref (ad 2) :: rest)) := zget Z hP 2 (gW_o rfl) (C := RX10) rfl inX10 1 (by decide) rfl hw rfl hdg kk
theorem fp_2_1 {v : Int32} (Z : Zc p s m c cc nL own D cy ad) (hP : va_P D vwCl (gW cy ad σ τ) H) (hS : va_S (gA ad) s.heap H locs) (hw : Cond.fieldLink own index "OneSocket$Told" "holes" "I" ∈ lw_tbl) (hdg : decode cc pc = .ok (.putfield index, 3)) (kk : ∀ (H1 : Heap) (locs1 : List Loc), va_P D vwCl (gW cy ad (sg σ 5 v) τ) H1 → va_S (gA ad) s.heap H1 locs1 → W p l e R s m args below meth c H1 locs1 cells slots Q (F0 m (pc + 3) ls rest)) : W p l e R s m args below meth c H locs cells slots Q (F0 m pc ls (.int v :: .ref (ad 2) :: rest)) := zput Z hP hS 2 (gW_o rfl) (C := RX10) rfl inX10 tyX10_ok nmX10 1 (by decide) rfl rfl hw rfl rfl (Nat.le_of_ble_eq_true rfl) (gS_o (σ' := (sg σ 5 v)) (by decide) rfl (Or.inl rfl)) hdg kk
theorem fg_2_2 (Z : Zc p s m c cc nL own D cy ad) (hP : va_P D vwCl (gW cy ad σ τ) H) (hw : Cond.fieldLink own index "OneSocket$Told" "calls" "I" ∈ lw_tbl) (hdg : decode cc pc = .ok (.getfield index, 3)) (kk : W p l e R s m args below meth c H locs cells slots Q (F0 m (pc + 3) ls (.int (σ.1 6) :: rest))) : W p l e R s m args below meth c H locs cells slots Q (F0 m pc ls (.ref (ad 2) :: rest)) := zget Z hP 2 (gW_o rfl) (C := RX10) rfl inX10 2 (by decide) rfl hw rfl hdg kk
theorem fp_2_2 {v : Int32} (Z : Zc p s m c cc nL own D cy ad) (hP : va_P D vwCl (gW cy ad σ τ) H) (hS : va_S (gA ad) s.heap H locs) (hw : Cond.fieldLink own index "OneSocket$Told" "calls" "I" ∈ lw_tbl) (hdg : decode cc pc = .ok (.putfield index, 3)) (kk : ∀ (H1 : Heap) (locs1 : List Loc), va_P D vwCl (gW cy ad (sg σ 6 v) τ) H1 → va_S (gA ad) s.heap H1 locs1 → W p l e R s m args below meth c H1 locs1 cells slots Q (F0 m (pc + 3) ls rest)) : W p l e R s m args below meth c H locs cells slots Q (F0 m pc ls (.int v :: .ref (ad 2) :: rest)) := zput Z hP hS 2 (gW_o rfl) (C := RX10) rfl inX10 tyX10_ok nmX10 2 (by decide) rfl rfl hw rfl rfl (Nat.le_of_ble_eq_true rfl) (gS_o (σ' := (sg σ 6 v)) (by decide) rfl (Or.inl rfl)) hdg kk
theorem fg_2_3 (Z : Zc p s m c cc nL own D cy ad) (hP : va_P D vwCl (gW cy ad σ τ) H) (hw : Cond.fieldLink own index "OneSocket$Told" "darks" "I" ∈ lw_tbl) (hdg : decode cc pc = .ok (.getfield index, 3)) (kk : W p l e R s m args below meth c H locs cells slots Q (F0 m (pc + 3) ls (.int (σ.1 7) :: rest))) : W p l e R s m args below meth c H locs cells slots Q (F0 m pc ls (.ref (ad 2) :: rest)) := zget Z hP 2 (gW_o rfl) (C := RX10) rfl inX10 3 (by decide) rfl hw rfl hdg kk
theorem fp_2_3 {v : Int32} (Z : Zc p s m c cc nL own D cy ad) (hP : va_P D vwCl (gW cy ad σ τ) H) (hS : va_S (gA ad) s.heap H locs) (hw : Cond.fieldLink own index "OneSocket$Told" "darks" "I" ∈ lw_tbl) (hdg : decode cc pc = .ok (.putfield index, 3)) (kk : ∀ (H1 : Heap) (locs1 : List Loc), va_P D vwCl (gW cy ad (sg σ 7 v) τ) H1 → va_S (gA ad) s.heap H1 locs1 → W p l e R s m args below meth c H1 locs1 cells slots Q (F0 m (pc + 3) ls rest)) : W p l e R s m args below meth c H locs cells slots Q (F0 m pc ls (.int v :: .ref (ad 2) :: rest)) := zput Z hP hS 2 (gW_o rfl) (C := RX10) rfl inX10 tyX10_ok nmX10 3 (by decide) rfl rfl hw rfl rfl (Nat.le_of_ble_eq_true rfl) (gS_o (σ' := (sg σ 7 v)) (by decide) rfl (Or.inl rfl)) hdg kk
theorem fg_2_4 (Z : Zc p s m c cc nL own D cy ad) (hP : va_P D vwCl (gW cy ad σ τ) H) (hw : Cond.fieldLink own index "OneSocket$Told" "level" "[I" ∈ lw_tbl) (hdg : decode cc pc = .ok (.getfield index, 3)) (kk : W p l e R s m args below meth c H locs cells slots Q (F0 m (pc + 3) ls (.ref (ad 27) :: rest))) : W p l e R s m args below meth c H locs cells slots Q (F0 m pc ls (.ref (ad 2) :: rest)) := zget Z hP 2 (gW_o rfl) (C := RX10) rfl inX10 4 (by decide) rfl hw rfl hdg kk
theorem fg_2_5 (Z : Zc p s m c cc nL own D cy ad) (hP : va_P D vwCl (gW cy ad σ τ) H) (hw : Cond.fieldLink own index "OneSocket$Told" "fills" "[I" ∈ lw_tbl) (hdg : decode cc pc = .ok (.getfield index, 3)) (kk : W p l e R s m args below meth c H locs cells slots Q (F0 m (pc + 3) ls (.ref (ad 28) :: rest))) : W p l e R s m args below meth c H locs cells slots Q (F0 m pc ls (.ref (ad 2) :: rest)) := zget Z hP 2 (gW_o rfl) (C := RX10) rfl inX10 5 (by decide) rfl hw rfl hdg kk
theorem fg_2_6 (Z : Zc p s m c cc nL own D cy ad) (hP : va_P D vwCl (gW cy ad σ τ) H) (hw : Cond.fieldLink own index "OneSocket$Told" "runs" "[I" ∈ lw_tbl) (hdg : decode cc pc = .ok (.getfield index, 3)) (kk : W p l e R s m args below meth c H locs cells slots Q (F0 m (pc + 3) ls (.ref (ad 29) :: rest))) : W p l e R s m args below meth c H locs cells slots Q (F0 m pc ls (.ref (ad 2) :: rest)) := zget Z hP 2 (gW_o rfl) (C := RX10) rfl inX10 6 (by decide) rfl hw rfl hdg kk
theorem fg_2_7 (Z : Zc p s m c cc nL own D cy ad) (hP : va_P D vwCl (gW cy ad σ τ) H) (hw : Cond.fieldLink own index "OneSocket$Told" "callPhone" "[I" ∈ lw_tbl) (hdg : decode cc pc = .ok (.getfield index, 3)) (kk : W p l e R s m args below meth c H locs cells slots Q (F0 m (pc + 3) ls (.ref (ad 30) :: rest))) : W p l e R s m args below meth c H locs cells slots Q (F0 m pc ls (.ref (ad 2) :: rest)) := zget Z hP 2 (gW_o rfl) (C := RX10) rfl inX10 7 (by decide) rfl hw rfl hdg kk
theorem fg_2_8 (Z : Zc p s m c cc nL own D cy ad) (hP : va_P D vwCl (gW cy ad σ τ) H) (hw : Cond.fieldLink own index "OneSocket$Told" "callTurn" "[I" ∈ lw_tbl) (hdg : decode cc pc = .ok (.getfield index, 3)) (kk : W p l e R s m args below meth c H locs cells slots Q (F0 m (pc + 3) ls (.ref (ad 31) :: rest))) : W p l e R s m args below meth c H locs cells slots Q (F0 m pc ls (.ref (ad 2) :: rest)) := zget Z hP 2 (gW_o rfl) (C := RX10) rfl inX10 8 (by decide) rfl hw rfl hdg kk
theorem fg_2_9 (Z : Zc p s m c cc nL own D cy ad) (hP : va_P D vwCl (gW cy ad σ τ) H) (hw : Cond.fieldLink own index "OneSocket$Told" "callNeeds" "[I" ∈ lw_tbl) (hdg : decode cc pc = .ok (.getfield index, 3)) (kk : W p l e R s m args below meth c H locs cells slots Q (F0 m (pc + 3) ls (.ref (ad 32) :: rest))) : W p l e R s m args below meth c H locs cells slots Q (F0 m pc ls (.ref (ad 2) :: rest)) := zget Z hP 2 (gW_o rfl) (C := RX10) rfl inX10 9 (by decide) rfl hw rfl hdg kk
theorem fg_2_10 (Z : Zc p s m c cc nL own D cy ad) (hP : va_P D vwCl (gW cy ad σ τ) H) (hw : Cond.fieldLink own index "OneSocket$Told" "darkFrom" "[I" ∈ lw_tbl) (hdg : decode cc pc = .ok (.getfield index, 3)) (kk : W p l e R s m args below meth c H locs cells slots Q (F0 m (pc + 3) ls (.ref (ad 33) :: rest))) : W p l e R s m args below meth c H locs cells slots Q (F0 m pc ls (.ref (ad 2) :: rest)) := zget Z hP 2 (gW_o rfl) (C := RX10) rfl inX10 10 (by decide) rfl hw rfl hdg kk
theorem fg_2_11 (Z : Zc p s m c cc nL own D cy ad) (hP : va_P D vwCl (gW cy ad σ τ) H) (hw : Cond.fieldLink own index "OneSocket$Told" "darkTo" "[I" ∈ lw_tbl) (hdg : decode cc pc = .ok (.getfield index, 3)) (kk : W p l e R s m args below meth c H locs cells slots Q (F0 m (pc + 3) ls (.ref (ad 34) :: rest))) : W p l e R s m args below meth c H locs cells slots Q (F0 m pc ls (.ref (ad 2) :: rest)) := zget Z hP 2 (gW_o rfl) (C := RX10) rfl inX10 11 (by decide) rfl hw rfl hdg kk
theorem fg_3_0 (Z : Zc p s m c cc nL own D cy ad) (hP : va_P D vwCl (gW cy ad σ τ) H) (hw : Cond.fieldLink own index "OneSocket$Reader" "letters" "[I" ∈ lw_tbl) (hdg : decode cc pc = .ok (.getfield index, 3)) (kk : W p l e R s m args below meth c H locs cells slots Q (F0 m (pc + 3) ls (.ref (ad 35) :: rest))) : W p l e R s m args below meth c H locs cells slots Q (F0 m pc ls (.ref (ad 3) :: rest)) := zget Z hP 3 (gW_o rfl) (C := RX7) rfl inX7 0 (by decide) rfl hw rfl hdg kk
theorem fg_3_1 (Z : Zc p s m c cc nL own D cy ad) (hP : va_P D vwCl (gW cy ad σ τ) H) (hw : Cond.fieldLink own index "OneSocket$Reader" "length" "I" ∈ lw_tbl) (hdg : decode cc pc = .ok (.getfield index, 3)) (kk : W p l e R s m args below meth c H locs cells slots Q (F0 m (pc + 3) ls (.int (σ.1 8) :: rest))) : W p l e R s m args below meth c H locs cells slots Q (F0 m pc ls (.ref (ad 3) :: rest)) := zget Z hP 3 (gW_o rfl) (C := RX7) rfl inX7 1 (by decide) rfl hw rfl hdg kk
theorem fp_3_1 {v : Int32} (Z : Zc p s m c cc nL own D cy ad) (hP : va_P D vwCl (gW cy ad σ τ) H) (hS : va_S (gA ad) s.heap H locs) (hw : Cond.fieldLink own index "OneSocket$Reader" "length" "I" ∈ lw_tbl) (hdg : decode cc pc = .ok (.putfield index, 3)) (kk : ∀ (H1 : Heap) (locs1 : List Loc), va_P D vwCl (gW cy ad (sg σ 8 v) τ) H1 → va_S (gA ad) s.heap H1 locs1 → W p l e R s m args below meth c H1 locs1 cells slots Q (F0 m (pc + 3) ls rest)) : W p l e R s m args below meth c H locs cells slots Q (F0 m pc ls (.int v :: .ref (ad 3) :: rest)) := zput Z hP hS 3 (gW_o rfl) (C := RX7) rfl inX7 tyX7_ok nmX7 1 (by decide) rfl rfl hw rfl rfl (Nat.le_of_ble_eq_true rfl) (gS_o (σ' := (sg σ 8 v)) (by decide) rfl (Or.inl rfl)) hdg kk
theorem fg_3_2 (Z : Zc p s m c cc nL own D cy ad) (hP : va_P D vwCl (gW cy ad σ τ) H) (hw : Cond.fieldLink own index "OneSocket$Reader" "tokenPlace" "I" ∈ lw_tbl) (hdg : decode cc pc = .ok (.getfield index, 3)) (kk : W p l e R s m args below meth c H locs cells slots Q (F0 m (pc + 3) ls (.int (σ.1 9) :: rest))) : W p l e R s m args below meth c H locs cells slots Q (F0 m pc ls (.ref (ad 3) :: rest)) := zget Z hP 3 (gW_o rfl) (C := RX7) rfl inX7 2 (by decide) rfl hw rfl hdg kk
theorem fp_3_2 {v : Int32} (Z : Zc p s m c cc nL own D cy ad) (hP : va_P D vwCl (gW cy ad σ τ) H) (hS : va_S (gA ad) s.heap H locs) (hw : Cond.fieldLink own index "OneSocket$Reader" "tokenPlace" "I" ∈ lw_tbl) (hdg : decode cc pc = .ok (.putfield index, 3)) (kk : ∀ (H1 : Heap) (locs1 : List Loc), va_P D vwCl (gW cy ad (sg σ 9 v) τ) H1 → va_S (gA ad) s.heap H1 locs1 → W p l e R s m args below meth c H1 locs1 cells slots Q (F0 m (pc + 3) ls rest)) : W p l e R s m args below meth c H locs cells slots Q (F0 m pc ls (.int v :: .ref (ad 3) :: rest)) := zput Z hP hS 3 (gW_o rfl) (C := RX7) rfl inX7 tyX7_ok nmX7 2 (by decide) rfl rfl hw rfl rfl (Nat.le_of_ble_eq_true rfl) (gS_o (σ' := (sg σ 9 v)) (by decide) rfl (Or.inl rfl)) hdg kk
theorem fg_3_3 (Z : Zc p s m c cc nL own D cy ad) (hP : va_P D vwCl (gW cy ad σ τ) H) (hw : Cond.fieldLink own index "OneSocket$Reader" "place" "I" ∈ lw_tbl) (hdg : decode cc pc = .ok (.getfield index, 3)) (kk : W p l e R s m args below meth c H locs cells slots Q (F0 m (pc + 3) ls (.int (σ.1 10) :: rest))) : W p l e R s m args below meth c H locs cells slots Q (F0 m pc ls (.ref (ad 3) :: rest)) := zget Z hP 3 (gW_o rfl) (C := RX7) rfl inX7 3 (by decide) rfl hw rfl hdg kk
theorem fp_3_3 {v : Int32} (Z : Zc p s m c cc nL own D cy ad) (hP : va_P D vwCl (gW cy ad σ τ) H) (hS : va_S (gA ad) s.heap H locs) (hw : Cond.fieldLink own index "OneSocket$Reader" "place" "I" ∈ lw_tbl) (hdg : decode cc pc = .ok (.putfield index, 3)) (kk : ∀ (H1 : Heap) (locs1 : List Loc), va_P D vwCl (gW cy ad (sg σ 10 v) τ) H1 → va_S (gA ad) s.heap H1 locs1 → W p l e R s m args below meth c H1 locs1 cells slots Q (F0 m (pc + 3) ls rest)) : W p l e R s m args below meth c H locs cells slots Q (F0 m pc ls (.int v :: .ref (ad 3) :: rest)) := zput Z hP hS 3 (gW_o rfl) (C := RX7) rfl inX7 tyX7_ok nmX7 3 (by decide) rfl rfl hw rfl rfl (Nat.le_of_ble_eq_true rfl) (gS_o (σ' := (sg σ 10 v)) (by decide) rfl (Or.inl rfl)) hdg kk
theorem fg_3_4 (Z : Zc p s m c cc nL own D cy ad) (hP : va_P D vwCl (gW cy ad σ τ) H) (hw : Cond.fieldLink own index "OneSocket$Reader" "token" "I" ∈ lw_tbl) (hdg : decode cc pc = .ok (.getfield index, 3)) (kk : W p l e R s m args below meth c H locs cells slots Q (F0 m (pc + 3) ls (.int (σ.1 11) :: rest))) : W p l e R s m args below meth c H locs cells slots Q (F0 m pc ls (.ref (ad 3) :: rest)) := zget Z hP 3 (gW_o rfl) (C := RX7) rfl inX7 4 (by decide) rfl hw rfl hdg kk
theorem fp_3_4 {v : Int32} (Z : Zc p s m c cc nL own D cy ad) (hP : va_P D vwCl (gW cy ad σ τ) H) (hS : va_S (gA ad) s.heap H locs) (hw : Cond.fieldLink own index "OneSocket$Reader" "token" "I" ∈ lw_tbl) (hdg : decode cc pc = .ok (.putfield index, 3)) (kk : ∀ (H1 : Heap) (locs1 : List Loc), va_P D vwCl (gW cy ad (sg σ 11 v) τ) H1 → va_S (gA ad) s.heap H1 locs1 → W p l e R s m args below meth c H1 locs1 cells slots Q (F0 m (pc + 3) ls rest)) : W p l e R s m args below meth c H locs cells slots Q (F0 m pc ls (.int v :: .ref (ad 3) :: rest)) := zput Z hP hS 3 (gW_o rfl) (C := RX7) rfl inX7 tyX7_ok nmX7 4 (by decide) rfl rfl hw rfl rfl (Nat.le_of_ble_eq_true rfl) (gS_o (σ' := (sg σ 11 v)) (by decide) rfl (Or.inl rfl)) hdg kk
theorem fg_3_5 (Z : Zc p s m c cc nL own D cy ad) (hP : va_P D vwCl (gW cy ad σ τ) H) (hw : Cond.fieldLink own index "OneSocket$Reader" "value" "I" ∈ lw_tbl) (hdg : decode cc pc = .ok (.getfield index, 3)) (kk : W p l e R s m args below meth c H locs cells slots Q (F0 m (pc + 3) ls (.int (σ.1 12) :: rest))) : W p l e R s m args below meth c H locs cells slots Q (F0 m pc ls (.ref (ad 3) :: rest)) := zget Z hP 3 (gW_o rfl) (C := RX7) rfl inX7 5 (by decide) rfl hw rfl hdg kk
theorem fp_3_5 {v : Int32} (Z : Zc p s m c cc nL own D cy ad) (hP : va_P D vwCl (gW cy ad σ τ) H) (hS : va_S (gA ad) s.heap H locs) (hw : Cond.fieldLink own index "OneSocket$Reader" "value" "I" ∈ lw_tbl) (hdg : decode cc pc = .ok (.putfield index, 3)) (kk : ∀ (H1 : Heap) (locs1 : List Loc), va_P D vwCl (gW cy ad (sg σ 12 v) τ) H1 → va_S (gA ad) s.heap H1 locs1 → W p l e R s m args below meth c H1 locs1 cells slots Q (F0 m (pc + 3) ls rest)) : W p l e R s m args below meth c H locs cells slots Q (F0 m pc ls (.int v :: .ref (ad 3) :: rest)) := zput Z hP hS 3 (gW_o rfl) (C := RX7) rfl inX7 tyX7_ok nmX7 5 (by decide) rfl rfl hw rfl rfl (Nat.le_of_ble_eq_true rfl) (gS_o (σ' := (sg σ 12 v)) (by decide) rfl (Or.inl rfl)) hdg kk
theorem fg_3_6 (Z : Zc p s m c cc nL own D cy ad) (hP : va_P D vwCl (gW cy ad σ τ) H) (hw : Cond.fieldLink own index "OneSocket$Reader" "holesTold" "Z" ∈ lw_tbl) (hdg : decode cc pc = .ok (.getfield index, 3)) (kk : W p l e R s m args below meth c H locs cells slots Q (F0 m (pc + 3) ls (.int (σ.1 13) :: rest))) : W p l e R s m args below meth c H locs cells slots Q (F0 m pc ls (.ref (ad 3) :: rest)) := zget Z hP 3 (gW_o rfl) (C := RX7) rfl inX7 6 (by decide) rfl hw rfl hdg kk
theorem fp_3_6 {v : Int32} (Z : Zc p s m c cc nL own D cy ad) (hP : va_P D vwCl (gW cy ad σ τ) H) (hS : va_S (gA ad) s.heap H locs) (hw : Cond.fieldLink own index "OneSocket$Reader" "holesTold" "Z" ∈ lw_tbl) (hz : narrow .boolean (.int v) = .int v) (hz2 : fits .boolean (.int v) = true) (hdg : decode cc pc = .ok (.putfield index, 3)) (kk : ∀ (H1 : Heap) (locs1 : List Loc), va_P D vwCl (gW cy ad (sg σ 13 v) τ) H1 → va_S (gA ad) s.heap H1 locs1 → W p l e R s m args below meth c H1 locs1 cells slots Q (F0 m (pc + 3) ls rest)) : W p l e R s m args below meth c H locs cells slots Q (F0 m pc ls (.int v :: .ref (ad 3) :: rest)) := zput Z hP hS 3 (gW_o rfl) (C := RX7) rfl inX7 tyX7_ok nmX7 6 (by decide) rfl rfl hw hz hz2 (Nat.le_of_ble_eq_true rfl) (gS_o (σ' := (sg σ 13 v)) (by decide) rfl (Or.inl rfl)) hdg kk
theorem fg_4_0 (Z : Zc p s m c cc nL own D cy ad) (hP : va_P D vwCl (gW cy ad σ τ) H) (hw : Cond.fieldLink own index "OneSocket$Now" "turn" "I" ∈ lw_tbl) (hdg : decode cc pc = .ok (.getfield index, 3)) (kk : W p l e R s m args below meth c H locs cells slots Q (F0 m (pc + 3) ls (.int (σ.1 14) :: rest))) : W p l e R s m args below meth c H locs cells slots Q (F0 m pc ls (.ref (ad 4) :: rest)) := zget Z hP 4 (gW_o rfl) (C := RX4) rfl inX4 0 (by decide) rfl hw rfl hdg kk
theorem fp_4_0 {v : Int32} (Z : Zc p s m c cc nL own D cy ad) (hP : va_P D vwCl (gW cy ad σ τ) H) (hS : va_S (gA ad) s.heap H locs) (hw : Cond.fieldLink own index "OneSocket$Now" "turn" "I" ∈ lw_tbl) (hdg : decode cc pc = .ok (.putfield index, 3)) (kk : ∀ (H1 : Heap) (locs1 : List Loc), va_P D vwCl (gW cy ad (sg σ 14 v) τ) H1 → va_S (gA ad) s.heap H1 locs1 → W p l e R s m args below meth c H1 locs1 cells slots Q (F0 m (pc + 3) ls rest)) : W p l e R s m args below meth c H locs cells slots Q (F0 m pc ls (.int v :: .ref (ad 4) :: rest)) := zput Z hP hS 4 (gW_o rfl) (C := RX4) rfl inX4 tyX4_ok nmX4 0 (by decide) rfl rfl hw rfl rfl (Nat.le_of_ble_eq_true rfl) (gS_o (σ' := (sg σ 14 v)) (by decide) rfl (Or.inl rfl)) hdg kk
theorem fg_4_1 (Z : Zc p s m c cc nL own D cy ad) (hP : va_P D vwCl (gW cy ad σ τ) H) (hw : Cond.fieldLink own index "OneSocket$Now" "on" "I" ∈ lw_tbl) (hdg : decode cc pc = .ok (.getfield index, 3)) (kk : W p l e R s m args below meth c H locs cells slots Q (F0 m (pc + 3) ls (.int (σ.1 15) :: rest))) : W p l e R s m args below meth c H locs cells slots Q (F0 m pc ls (.ref (ad 4) :: rest)) := zget Z hP 4 (gW_o rfl) (C := RX4) rfl inX4 1 (by decide) rfl hw rfl hdg kk
theorem fp_4_1 {v : Int32} (Z : Zc p s m c cc nL own D cy ad) (hP : va_P D vwCl (gW cy ad σ τ) H) (hS : va_S (gA ad) s.heap H locs) (hw : Cond.fieldLink own index "OneSocket$Now" "on" "I" ∈ lw_tbl) (hdg : decode cc pc = .ok (.putfield index, 3)) (kk : ∀ (H1 : Heap) (locs1 : List Loc), va_P D vwCl (gW cy ad (sg σ 15 v) τ) H1 → va_S (gA ad) s.heap H1 locs1 → W p l e R s m args below meth c H1 locs1 cells slots Q (F0 m (pc + 3) ls rest)) : W p l e R s m args below meth c H locs cells slots Q (F0 m pc ls (.int v :: .ref (ad 4) :: rest)) := zput Z hP hS 4 (gW_o rfl) (C := RX4) rfl inX4 tyX4_ok nmX4 1 (by decide) rfl rfl hw rfl rfl (Nat.le_of_ble_eq_true rfl) (gS_o (σ' := (sg σ 15 v)) (by decide) rfl (Or.inl rfl)) hdg kk
theorem fg_4_2 (Z : Zc p s m c cc nL own D cy ad) (hP : va_P D vwCl (gW cy ad σ τ) H) (hw : Cond.fieldLink own index "OneSocket$Now" "gotUp" "I" ∈ lw_tbl) (hdg : decode cc pc = .ok (.getfield index, 3)) (kk : W p l e R s m args below meth c H locs cells slots Q (F0 m (pc + 3) ls (.int (σ.1 16) :: rest))) : W p l e R s m args below meth c H locs cells slots Q (F0 m pc ls (.ref (ad 4) :: rest)) := zget Z hP 4 (gW_o rfl) (C := RX4) rfl inX4 2 (by decide) rfl hw rfl hdg kk
theorem fp_4_2 {v : Int32} (Z : Zc p s m c cc nL own D cy ad) (hP : va_P D vwCl (gW cy ad σ τ) H) (hS : va_S (gA ad) s.heap H locs) (hw : Cond.fieldLink own index "OneSocket$Now" "gotUp" "I" ∈ lw_tbl) (hdg : decode cc pc = .ok (.putfield index, 3)) (kk : ∀ (H1 : Heap) (locs1 : List Loc), va_P D vwCl (gW cy ad (sg σ 16 v) τ) H1 → va_S (gA ad) s.heap H1 locs1 → W p l e R s m args below meth c H1 locs1 cells slots Q (F0 m (pc + 3) ls rest)) : W p l e R s m args below meth c H locs cells slots Q (F0 m pc ls (.int v :: .ref (ad 4) :: rest)) := zput Z hP hS 4 (gW_o rfl) (C := RX4) rfl inX4 tyX4_ok nmX4 2 (by decide) rfl rfl hw rfl rfl (Nat.le_of_ble_eq_true rfl) (gS_o (σ' := (sg σ 16 v)) (by decide) rfl (Or.inl rfl)) hdg kk
theorem fg_4_3 (Z : Zc p s m c cc nL own D cy ad) (hP : va_P D vwCl (gW cy ad σ τ) H) (hw : Cond.fieldLink own index "OneSocket$Now" "missed" "I" ∈ lw_tbl) (hdg : decode cc pc = .ok (.getfield index, 3)) (kk : W p l e R s m args below meth c H locs cells slots Q (F0 m (pc + 3) ls (.int (σ.1 17) :: rest))) : W p l e R s m args below meth c H locs cells slots Q (F0 m pc ls (.ref (ad 4) :: rest)) := zget Z hP 4 (gW_o rfl) (C := RX4) rfl inX4 3 (by decide) rfl hw rfl hdg kk
theorem fp_4_3 {v : Int32} (Z : Zc p s m c cc nL own D cy ad) (hP : va_P D vwCl (gW cy ad σ τ) H) (hS : va_S (gA ad) s.heap H locs) (hw : Cond.fieldLink own index "OneSocket$Now" "missed" "I" ∈ lw_tbl) (hdg : decode cc pc = .ok (.putfield index, 3)) (kk : ∀ (H1 : Heap) (locs1 : List Loc), va_P D vwCl (gW cy ad (sg σ 17 v) τ) H1 → va_S (gA ad) s.heap H1 locs1 → W p l e R s m args below meth c H1 locs1 cells slots Q (F0 m (pc + 3) ls rest)) : W p l e R s m args below meth c H locs cells slots Q (F0 m pc ls (.int v :: .ref (ad 4) :: rest)) := zput Z hP hS 4 (gW_o rfl) (C := RX4) rfl inX4 tyX4_ok nmX4 3 (by decide) rfl rfl hw rfl rfl (Nat.le_of_ble_eq_true rfl) (gS_o (σ' := (sg σ 17 v)) (by decide) rfl (Or.inl rfl)) hdg kk
theorem fg_4_4 (Z : Zc p s m c cc nL own D cy ad) (hP : va_P D vwCl (gW cy ad σ τ) H) (hw : Cond.fieldLink own index "OneSocket$Now" "level" "[I" ∈ lw_tbl) (hdg : decode cc pc = .ok (.getfield index, 3)) (kk : W p l e R s m args below meth c H locs cells slots Q (F0 m (pc + 3) ls (.ref (ad 36) :: rest))) : W p l e R s m args below meth c H locs cells slots Q (F0 m pc ls (.ref (ad 4) :: rest)) := zget Z hP 4 (gW_o rfl) (C := RX4) rfl inX4 4 (by decide) rfl hw rfl hdg kk
theorem fg_4_5 (Z : Zc p s m c cc nL own D cy ad) (hP : va_P D vwCl (gW cy ad σ τ) H) (hw : Cond.fieldLink own index "OneSocket$Now" "turnsOn" "[I" ∈ lw_tbl) (hdg : decode cc pc = .ok (.getfield index, 3)) (kk : W p l e R s m args below meth c H locs cells slots Q (F0 m (pc + 3) ls (.ref (ad 37) :: rest))) : W p l e R s m args below meth c H locs cells slots Q (F0 m pc ls (.ref (ad 4) :: rest)) := zget Z hP 4 (gW_o rfl) (C := RX4) rfl inX4 5 (by decide) rfl hw rfl hdg kk
theorem fg_5_0 (Z : Zc p s m c cc nL own D cy ad) (hP : va_P D vwCl (gW cy ad σ τ) H) (hw : Cond.fieldLink own index "OneSocket$Book" "rows" "[[I" ∈ lw_tbl) (hdg : decode cc pc = .ok (.getfield index, 3)) (kk : W p l e R s m args below meth c H locs cells slots Q (F0 m (pc + 3) ls (.ref (ad 15) :: rest))) : W p l e R s m args below meth c H locs cells slots Q (F0 m pc ls (.ref (ad 5) :: rest)) := zget Z hP 5 (gW_o rfl) (C := RX2) rfl inX2 0 (by decide) rfl hw rfl hdg kk
theorem fg_5_1 (Z : Zc p s m c cc nL own D cy ad) (hP : va_P D vwCl (gW cy ad σ τ) H) (hw : Cond.fieldLink own index "OneSocket$Book" "newest" "I" ∈ lw_tbl) (hdg : decode cc pc = .ok (.getfield index, 3)) (kk : W p l e R s m args below meth c H locs cells slots Q (F0 m (pc + 3) ls (.int (σ.1 18) :: rest))) : W p l e R s m args below meth c H locs cells slots Q (F0 m pc ls (.ref (ad 5) :: rest)) := zget Z hP 5 (gW_o rfl) (C := RX2) rfl inX2 1 (by decide) rfl hw rfl hdg kk
theorem fp_5_1 {v : Int32} (Z : Zc p s m c cc nL own D cy ad) (hP : va_P D vwCl (gW cy ad σ τ) H) (hS : va_S (gA ad) s.heap H locs) (hw : Cond.fieldLink own index "OneSocket$Book" "newest" "I" ∈ lw_tbl) (hdg : decode cc pc = .ok (.putfield index, 3)) (kk : ∀ (H1 : Heap) (locs1 : List Loc), va_P D vwCl (gW cy ad (sg σ 18 v) τ) H1 → va_S (gA ad) s.heap H1 locs1 → W p l e R s m args below meth c H1 locs1 cells slots Q (F0 m (pc + 3) ls rest)) : W p l e R s m args below meth c H locs cells slots Q (F0 m pc ls (.int v :: .ref (ad 5) :: rest)) := zput Z hP hS 5 (gW_o rfl) (C := RX2) rfl inX2 tyX2_ok nmX2 1 (by decide) rfl rfl hw rfl rfl (Nat.le_of_ble_eq_true rfl) (gS_o (σ' := (sg σ 18 v)) (by decide) rfl (Or.inl rfl)) hdg kk
theorem fg_5_2 (Z : Zc p s m c cc nL own D cy ad) (hP : va_P D vwCl (gW cy ad σ τ) H) (hw : Cond.fieldLink own index "OneSocket$Book" "pages" "I" ∈ lw_tbl) (hdg : decode cc pc = .ok (.getfield index, 3)) (kk : W p l e R s m args below meth c H locs cells slots Q (F0 m (pc + 3) ls (.int (σ.1 19) :: rest))) : W p l e R s m args below meth c H locs cells slots Q (F0 m pc ls (.ref (ad 5) :: rest)) := zget Z hP 5 (gW_o rfl) (C := RX2) rfl inX2 2 (by decide) rfl hw rfl hdg kk
theorem fp_5_2 {v : Int32} (Z : Zc p s m c cc nL own D cy ad) (hP : va_P D vwCl (gW cy ad σ τ) H) (hS : va_S (gA ad) s.heap H locs) (hw : Cond.fieldLink own index "OneSocket$Book" "pages" "I" ∈ lw_tbl) (hdg : decode cc pc = .ok (.putfield index, 3)) (kk : ∀ (H1 : Heap) (locs1 : List Loc), va_P D vwCl (gW cy ad (sg σ 19 v) τ) H1 → va_S (gA ad) s.heap H1 locs1 → W p l e R s m args below meth c H1 locs1 cells slots Q (F0 m (pc + 3) ls rest)) : W p l e R s m args below meth c H locs cells slots Q (F0 m pc ls (.int v :: .ref (ad 5) :: rest)) := zput Z hP hS 5 (gW_o rfl) (C := RX2) rfl inX2 tyX2_ok nmX2 2 (by decide) rfl rfl hw rfl rfl (Nat.le_of_ble_eq_true rfl) (gS_o (σ' := (sg σ 19 v)) (by decide) rfl (Or.inl rfl)) hdg kk
theorem fg_6_0 (Z : Zc p s m c cc nL own D cy ad) (hP : va_P D vwCl (gW cy ad σ τ) H) (hw : Cond.fieldLink own index "OneSocket$Planner" "best" "[I" ∈ lw_tbl) (hdg : decode cc pc = .ok (.getfield index, 3)) (kk : W p l e R s m args below meth c H locs cells slots Q (F0 m (pc + 3) ls (.ref (ad 42) :: rest))) : W p l e R s m args below meth c H locs cells slots Q (F0 m pc ls (.ref (ad 6) :: rest)) := zget Z hP 6 (gW_o rfl) (C := RX5) rfl inX5 0 (by decide) rfl hw rfl hdg kk
theorem fg_6_1 (Z : Zc p s m c cc nL own D cy ad) (hP : va_P D vwCl (gW cy ad σ τ) H) (hw : Cond.fieldLink own index "OneSocket$Planner" "row" "[I" ∈ lw_tbl) (hdg : decode cc pc = .ok (.getfield index, 3)) (kk : W p l e R s m args below meth c H locs cells slots Q (F0 m (pc + 3) ls (.ref (ad 43) :: rest))) : W p l e R s m args below meth c H locs cells slots Q (F0 m pc ls (.ref (ad 6) :: rest)) := zget Z hP 6 (gW_o rfl) (C := RX5) rfl inX5 1 (by decide) rfl hw rfl hdg kk
theorem fg_6_2 (Z : Zc p s m c cc nL own D cy ad) (hP : va_P D vwCl (gW cy ad σ τ) H) (hw : Cond.fieldLink own index "OneSocket$Planner" "least" "[[I" ∈ lw_tbl) (hdg : decode cc pc = .ok (.getfield index, 3)) (kk : W p l e R s m args below meth c H locs cells slots Q (F0 m (pc + 3) ls (.ref (ad 16) :: rest))) : W p l e R s m args below meth c H locs cells slots Q (F0 m pc ls (.ref (ad 6) :: rest)) := zget Z hP 6 (gW_o rfl) (C := RX5) rfl inX5 2 (by decide) rfl hw rfl hdg kk
theorem fg_6_3 (Z : Zc p s m c cc nL own D cy ad) (hP : va_P D vwCl (gW cy ad σ τ) H) (hw : Cond.fieldLink own index "OneSocket$Planner" "node" "[[I" ∈ lw_tbl) (hdg : decode cc pc = .ok (.getfield index, 3)) (kk : W p l e R s m args below meth c H locs cells slots Q (F0 m (pc + 3) ls (.ref (ad 17) :: rest))) : W p l e R s m args below meth c H locs cells slots Q (F0 m pc ls (.ref (ad 6) :: rest)) := zget Z hP 6 (gW_o rfl) (C := RX5) rfl inX5 3 (by decide) rfl hw rfl hdg kk
theorem fg_6_4 (Z : Zc p s m c cc nL own D cy ad) (hP : va_P D vwCl (gW cy ad σ τ) H) (hw : Cond.fieldLink own index "OneSocket$Planner" "bestCost" "I" ∈ lw_tbl) (hdg : decode cc pc = .ok (.getfield index, 3)) (kk : W p l e R s m args below meth c H locs cells slots Q (F0 m (pc + 3) ls (.int (σ.1 20) :: rest))) : W p l e R s m args below meth c H locs cells slots Q (F0 m pc ls (.ref (ad 6) :: rest)) := zget Z hP 6 (gW_o rfl) (C := RX5) rfl inX5 4 (by decide) rfl hw rfl hdg kk
theorem fp_6_4 {v : Int32} (Z : Zc p s m c cc nL own D cy ad) (hP : va_P D vwCl (gW cy ad σ τ) H) (hS : va_S (gA ad) s.heap H locs) (hw : Cond.fieldLink own index "OneSocket$Planner" "bestCost" "I" ∈ lw_tbl) (hdg : decode cc pc = .ok (.putfield index, 3)) (kk : ∀ (H1 : Heap) (locs1 : List Loc), va_P D vwCl (gW cy ad (sg σ 20 v) τ) H1 → va_S (gA ad) s.heap H1 locs1 → W p l e R s m args below meth c H1 locs1 cells slots Q (F0 m (pc + 3) ls rest)) : W p l e R s m args below meth c H locs cells slots Q (F0 m pc ls (.int v :: .ref (ad 6) :: rest)) := zput Z hP hS 6 (gW_o rfl) (C := RX5) rfl inX5 tyX5_ok nmX5 4 (by decide) rfl rfl hw rfl rfl (Nat.le_of_ble_eq_true rfl) (gS_o (σ' := (sg σ 20 v)) (by decide) rfl (Or.inl rfl)) hdg kk
theorem fg_6_5 (Z : Zc p s m c cc nL own D cy ad) (hP : va_P D vwCl (gW cy ad σ τ) H) (hw : Cond.fieldLink own index "OneSocket$Planner" "turns" "I" ∈ lw_tbl) (hdg : decode cc pc = .ok (.getfield index, 3)) (kk : W p l e R s m args below meth c H locs cells slots Q (F0 m (pc + 3) ls (.int (σ.1 21) :: rest))) : W p l e R s m args below meth c H locs cells slots Q (F0 m pc ls (.ref (ad 6) :: rest)) := zget Z hP 6 (gW_o rfl) (C := RX5) rfl inX5 5 (by decide) rfl hw rfl hdg kk
theorem fp_6_5 {v : Int32} (Z : Zc p s m c cc nL own D cy ad) (hP : va_P D vwCl (gW cy ad σ τ) H) (hS : va_S (gA ad) s.heap H locs) (hw : Cond.fieldLink own index "OneSocket$Planner" "turns" "I" ∈ lw_tbl) (hdg : decode cc pc = .ok (.putfield index, 3)) (kk : ∀ (H1 : Heap) (locs1 : List Loc), va_P D vwCl (gW cy ad (sg σ 21 v) τ) H1 → va_S (gA ad) s.heap H1 locs1 → W p l e R s m args below meth c H1 locs1 cells slots Q (F0 m (pc + 3) ls rest)) : W p l e R s m args below meth c H locs cells slots Q (F0 m pc ls (.int v :: .ref (ad 6) :: rest)) := zput Z hP hS 6 (gW_o rfl) (C := RX5) rfl inX5 tyX5_ok nmX5 5 (by decide) rfl rfl hw rfl rfl (Nat.le_of_ble_eq_true rfl) (gS_o (σ' := (sg σ 21 v)) (by decide) rfl (Or.inl rfl)) hdg kk
theorem fg_6_6 (Z : Zc p s m c cc nL own D cy ad) (hP : va_P D vwCl (gW cy ad σ τ) H) (hw : Cond.fieldLink own index "OneSocket$Planner" "firstTurn" "I" ∈ lw_tbl) (hdg : decode cc pc = .ok (.getfield index, 3)) (kk : W p l e R s m args below meth c H locs cells slots Q (F0 m (pc + 3) ls (.int (σ.1 22) :: rest))) : W p l e R s m args below meth c H locs cells slots Q (F0 m pc ls (.ref (ad 6) :: rest)) := zget Z hP 6 (gW_o rfl) (C := RX5) rfl inX5 6 (by decide) rfl hw rfl hdg kk
theorem fp_6_6 {v : Int32} (Z : Zc p s m c cc nL own D cy ad) (hP : va_P D vwCl (gW cy ad σ τ) H) (hS : va_S (gA ad) s.heap H locs) (hw : Cond.fieldLink own index "OneSocket$Planner" "firstTurn" "I" ∈ lw_tbl) (hdg : decode cc pc = .ok (.putfield index, 3)) (kk : ∀ (H1 : Heap) (locs1 : List Loc), va_P D vwCl (gW cy ad (sg σ 22 v) τ) H1 → va_S (gA ad) s.heap H1 locs1 → W p l e R s m args below meth c H1 locs1 cells slots Q (F0 m (pc + 3) ls rest)) : W p l e R s m args below meth c H locs cells slots Q (F0 m pc ls (.int v :: .ref (ad 6) :: rest)) := zput Z hP hS 6 (gW_o rfl) (C := RX5) rfl inX5 tyX5_ok nmX5 6 (by decide) rfl rfl hw rfl rfl (Nat.le_of_ble_eq_true rfl) (gS_o (σ' := (sg σ 22 v)) (by decide) rfl (Or.inl rfl)) hdg kk
theorem fg_66_0 (Z : Zc p s m c cc nL own D cy ad) (hP : va_P D vwCl (gW cy ad σ τ) H) (hw : Cond.fieldLink own index "OneSocketModel" "thrown" "I" ∈ lw_tbl) (hdg : decode cc pc = .ok (.getfield index, 3)) (kk : W p l e R s m args below meth c H locs cells slots Q (F0 m (pc + 3) ls (.int (τ.1 0) :: rest))) : W p l e R s m args below meth c H locs cells slots Q (F0 m pc ls (.ref (ad 66) :: rest)) := zget Z hP 66 (gW_mo.trans rfl) (C := RX12) rfl inX12 0 (by decide) rfl hw rfl hdg kk
theorem fp_66_0 {v : Int32} (Z : Zc p s m c cc nL own D cy ad) (hP : va_P D vwCl (gW cy ad σ τ) H) (hS : va_S (gA ad) s.heap H locs) (hw : Cond.fieldLink own index "OneSocketModel" "thrown" "I" ∈ lw_tbl) (hdg : decode cc pc = .ok (.putfield index, 3)) (kk : ∀ (H1 : Heap) (locs1 : List Loc), va_P D vwCl (gW cy ad σ (sg τ 0 v)) H1 → va_S (gA ad) s.heap H1 locs1 → W p l e R s m args below meth c H1 locs1 cells slots Q (F0 m (pc + 3) ls rest)) : W p l e R s m args below meth c H locs cells slots Q (F0 m pc ls (.int v :: .ref (ad 66) :: rest)) := zput Z hP hS 66 (gW_mo.trans rfl) (C := RX12) rfl inX12 tyX12_ok nmX12 0 (by decide) rfl rfl hw rfl rfl (Nat.le_of_ble_eq_true rfl) (gS_mo (τ' := (sg τ 0 v)) rfl rfl) hdg kk
theorem fg_66_1 (Z : Zc p s m c cc nL own D cy ad) (hP : va_P D vwCl (gW cy ad σ τ) H) (hw : Cond.fieldLink own index "OneSocketModel" "trace" "J" ∈ lw_tbl) (hdg : decode cc pc = .ok (.getfield index, 3)) (kk : W p l e R s m args below meth c H locs cells slots Q (F0 m (pc + 3) ls (.long τ.2.1 :: rest))) : W p l e R s m args below meth c H locs cells slots Q (F0 m pc ls (.ref (ad 66) :: rest)) := zget Z hP 66 (gW_mo.trans rfl) (C := RX12) rfl inX12 1 (by decide) rfl hw rfl hdg kk
theorem fp_66_1 {v : Int64} (Z : Zc p s m c cc nL own D cy ad) (hP : va_P D vwCl (gW cy ad σ τ) H) (hS : va_S (gA ad) s.heap H locs) (hw : Cond.fieldLink own index "OneSocketModel" "trace" "J" ∈ lw_tbl) (hdg : decode cc pc = .ok (.putfield index, 3)) (kk : ∀ (H1 : Heap) (locs1 : List Loc), va_P D vwCl (gW cy ad σ (sl τ v)) H1 → va_S (gA ad) s.heap H1 locs1 → W p l e R s m args below meth c H1 locs1 cells slots Q (F0 m (pc + 3) ls rest)) : W p l e R s m args below meth c H locs cells slots Q (F0 m pc ls (.long v :: .ref (ad 66) :: rest)) := zput Z hP hS 66 (gW_mo.trans rfl) (C := RX12) rfl inX12 tyX12_ok nmX12 1 (by decide) rfl rfl hw rfl rfl (Nat.le_of_ble_eq_true rfl) (gS_mo (τ' := (sl τ v)) rfl rfl) hdg kk
theorem fg_66_2 (Z : Zc p s m c cc nL own D cy ad) (hP : va_P D vwCl (gW cy ad σ τ) H) (hw : Cond.fieldLink own index "OneSocketModel" "text" "[I" ∈ lw_tbl) (hdg : decode cc pc = .ok (.getfield index, 3)) (kk : W p l e R s m args below meth c H locs cells slots Q (F0 m (pc + 3) ls (.ref (ad 67) :: rest))) : W p l e R s m args below meth c H locs cells slots Q (F0 m pc ls (.ref (ad 66) :: rest)) := zget Z hP 66 (gW_mo.trans rfl) (C := RX12) rfl inX12 2 (by decide) rfl hw rfl hdg kk
theorem fg_66_3 (Z : Zc p s m c cc nL own D cy ad) (hP : va_P D vwCl (gW cy ad σ τ) H) (hw : Cond.fieldLink own index "OneSocketModel" "typed" "I" ∈ lw_tbl) (hdg : decode cc pc = .ok (.getfield index, 3)) (kk : W p l e R s m args below meth c H locs cells slots Q (F0 m (pc + 3) ls (.int (τ.1 1) :: rest))) : W p l e R s m args below meth c H locs cells slots Q (F0 m pc ls (.ref (ad 66) :: rest)) := zget Z hP 66 (gW_mo.trans rfl) (C := RX12) rfl inX12 3 (by decide) rfl hw rfl hdg kk
theorem fp_66_3 {v : Int32} (Z : Zc p s m c cc nL own D cy ad) (hP : va_P D vwCl (gW cy ad σ τ) H) (hS : va_S (gA ad) s.heap H locs) (hw : Cond.fieldLink own index "OneSocketModel" "typed" "I" ∈ lw_tbl) (hdg : decode cc pc = .ok (.putfield index, 3)) (kk : ∀ (H1 : Heap) (locs1 : List Loc), va_P D vwCl (gW cy ad σ (sg τ 1 v)) H1 → va_S (gA ad) s.heap H1 locs1 → W p l e R s m args below meth c H1 locs1 cells slots Q (F0 m (pc + 3) ls rest)) : W p l e R s m args below meth c H locs cells slots Q (F0 m pc ls (.int v :: .ref (ad 66) :: rest)) := zput Z hP hS 66 (gW_mo.trans rfl) (C := RX12) rfl inX12 tyX12_ok nmX12 3 (by decide) rfl rfl hw rfl rfl (Nat.le_of_ble_eq_true rfl) (gS_mo (τ' := (sg τ 1 v)) rfl rfl) hdg kk
theorem fg_66_4 (Z : Zc p s m c cc nL own D cy ad) (hP : va_P D vwCl (gW cy ad σ τ) H) (hw : Cond.fieldLink own index "OneSocketModel" "next" "I" ∈ lw_tbl) (hdg : decode cc pc = .ok (.getfield index, 3)) (kk : W p l e R s m args below meth c H locs cells slots Q (F0 m (pc + 3) ls (.int (τ.1 2) :: rest))) : W p l e R s m args below meth c H locs cells slots Q (F0 m pc ls (.ref (ad 66) :: rest)) := zget Z hP 66 (gW_mo.trans rfl) (C := RX12) rfl inX12 4 (by decide) rfl hw rfl hdg kk
theorem fp_66_4 {v : Int32} (Z : Zc p s m c cc nL own D cy ad) (hP : va_P D vwCl (gW cy ad σ τ) H) (hS : va_S (gA ad) s.heap H locs) (hw : Cond.fieldLink own index "OneSocketModel" "next" "I" ∈ lw_tbl) (hdg : decode cc pc = .ok (.putfield index, 3)) (kk : ∀ (H1 : Heap) (locs1 : List Loc), va_P D vwCl (gW cy ad σ (sg τ 2 v)) H1 → va_S (gA ad) s.heap H1 locs1 → W p l e R s m args below meth c H1 locs1 cells slots Q (F0 m (pc + 3) ls rest)) : W p l e R s m args below meth c H locs cells slots Q (F0 m pc ls (.int v :: .ref (ad 66) :: rest)) := zput Z hP hS 66 (gW_mo.trans rfl) (C := RX12) rfl inX12 tyX12_ok nmX12 4 (by decide) rfl rfl hw rfl rfl (Nat.le_of_ble_eq_true rfl) (gS_mo (τ' := (sg τ 2 v)) rfl rfl) hdg kk
theorem fg_66_5 (Z : Zc p s m c cc nL own D cy ad) (hP : va_P D vwCl (gW cy ad σ τ) H) (hw : Cond.fieldLink own index "OneSocketModel" "token" "I" ∈ lw_tbl) (hdg : decode cc pc = .ok (.getfield index, 3)) (kk : W p l e R s m args below meth c H locs cells slots Q (F0 m (pc + 3) ls (.int (τ.1 3) :: rest))) : W p l e R s m args below meth c H locs cells slots Q (F0 m pc ls (.ref (ad 66) :: rest)) := zget Z hP 66 (gW_mo.trans rfl) (C := RX12) rfl inX12 5 (by decide) rfl hw rfl hdg kk
theorem fp_66_5 {v : Int32} (Z : Zc p s m c cc nL own D cy ad) (hP : va_P D vwCl (gW cy ad σ τ) H) (hS : va_S (gA ad) s.heap H locs) (hw : Cond.fieldLink own index "OneSocketModel" "token" "I" ∈ lw_tbl) (hdg : decode cc pc = .ok (.putfield index, 3)) (kk : ∀ (H1 : Heap) (locs1 : List Loc), va_P D vwCl (gW cy ad σ (sg τ 3 v)) H1 → va_S (gA ad) s.heap H1 locs1 → W p l e R s m args below meth c H1 locs1 cells slots Q (F0 m (pc + 3) ls rest)) : W p l e R s m args below meth c H locs cells slots Q (F0 m pc ls (.int v :: .ref (ad 66) :: rest)) := zput Z hP hS 66 (gW_mo.trans rfl) (C := RX12) rfl inX12 tyX12_ok nmX12 5 (by decide) rfl rfl hw rfl rfl (Nat.le_of_ble_eq_true rfl) (gS_mo (τ' := (sg τ 3 v)) rfl rfl) hdg kk
theorem fg_66_6 (Z : Zc p s m c cc nL own D cy ad) (hP : va_P D vwCl (gW cy ad σ τ) H) (hw : Cond.fieldLink own index "OneSocketModel" "place" "I" ∈ lw_tbl) (hdg : decode cc pc = .ok (.getfield index, 3)) (kk : W p l e R s m args below meth c H locs cells slots Q (F0 m (pc + 3) ls (.int (τ.1 4) :: rest))) : W p l e R s m args below meth c H locs cells slots Q (F0 m pc ls (.ref (ad 66) :: rest)) := zget Z hP 66 (gW_mo.trans rfl) (C := RX12) rfl inX12 6 (by decide) rfl hw rfl hdg kk
theorem fp_66_6 {v : Int32} (Z : Zc p s m c cc nL own D cy ad) (hP : va_P D vwCl (gW cy ad σ τ) H) (hS : va_S (gA ad) s.heap H locs) (hw : Cond.fieldLink own index "OneSocketModel" "place" "I" ∈ lw_tbl) (hdg : decode cc pc = .ok (.putfield index, 3)) (kk : ∀ (H1 : Heap) (locs1 : List Loc), va_P D vwCl (gW cy ad σ (sg τ 4 v)) H1 → va_S (gA ad) s.heap H1 locs1 → W p l e R s m args below meth c H1 locs1 cells slots Q (F0 m (pc + 3) ls rest)) : W p l e R s m args below meth c H locs cells slots Q (F0 m pc ls (.int v :: .ref (ad 66) :: rest)) := zput Z hP hS 66 (gW_mo.trans rfl) (C := RX12) rfl inX12 tyX12_ok nmX12 6 (by decide) rfl rfl hw rfl rfl (Nat.le_of_ble_eq_true rfl) (gS_mo (τ' := (sg τ 4 v)) rfl rfl) hdg kk
theorem fg_66_7 (Z : Zc p s m c cc nL own D cy ad) (hP : va_P D vwCl (gW cy ad σ τ) H) (hw : Cond.fieldLink own index "OneSocketModel" "value" "I" ∈ lw_tbl) (hdg : decode cc pc = .ok (.getfield index, 3)) (kk : W p l e R s m args below meth c H locs cells slots Q (F0 m (pc + 3) ls (.int (τ.1 5) :: rest))) : W p l e R s m args below meth c H locs cells slots Q (F0 m pc ls (.ref (ad 66) :: rest)) := zget Z hP 66 (gW_mo.trans rfl) (C := RX12) rfl inX12 7 (by decide) rfl hw rfl hdg kk
theorem fp_66_7 {v : Int32} (Z : Zc p s m c cc nL own D cy ad) (hP : va_P D vwCl (gW cy ad σ τ) H) (hS : va_S (gA ad) s.heap H locs) (hw : Cond.fieldLink own index "OneSocketModel" "value" "I" ∈ lw_tbl) (hdg : decode cc pc = .ok (.putfield index, 3)) (kk : ∀ (H1 : Heap) (locs1 : List Loc), va_P D vwCl (gW cy ad σ (sg τ 5 v)) H1 → va_S (gA ad) s.heap H1 locs1 → W p l e R s m args below meth c H1 locs1 cells slots Q (F0 m (pc + 3) ls rest)) : W p l e R s m args below meth c H locs cells slots Q (F0 m pc ls (.int v :: .ref (ad 66) :: rest)) := zput Z hP hS 66 (gW_mo.trans rfl) (C := RX12) rfl inX12 tyX12_ok nmX12 7 (by decide) rfl rfl hw rfl rfl (Nat.le_of_ble_eq_true rfl) (gS_mo (τ' := (sg τ 5 v)) rfl rfl) hdg kk
theorem fg_66_8 (Z : Zc p s m c cc nL own D cy ad) (hP : va_P D vwCl (gW cy ad σ τ) H) (hw : Cond.fieldLink own index "OneSocketModel" "fault" "I" ∈ lw_tbl) (hdg : decode cc pc = .ok (.getfield index, 3)) (kk : W p l e R s m args below meth c H locs cells slots Q (F0 m (pc + 3) ls (.int (τ.1 6) :: rest))) : W p l e R s m args below meth c H locs cells slots Q (F0 m pc ls (.ref (ad 66) :: rest)) := zget Z hP 66 (gW_mo.trans rfl) (C := RX12) rfl inX12 8 (by decide) rfl hw rfl hdg kk
theorem fp_66_8 {v : Int32} (Z : Zc p s m c cc nL own D cy ad) (hP : va_P D vwCl (gW cy ad σ τ) H) (hS : va_S (gA ad) s.heap H locs) (hw : Cond.fieldLink own index "OneSocketModel" "fault" "I" ∈ lw_tbl) (hdg : decode cc pc = .ok (.putfield index, 3)) (kk : ∀ (H1 : Heap) (locs1 : List Loc), va_P D vwCl (gW cy ad σ (sg τ 6 v)) H1 → va_S (gA ad) s.heap H1 locs1 → W p l e R s m args below meth c H1 locs1 cells slots Q (F0 m (pc + 3) ls rest)) : W p l e R s m args below meth c H locs cells slots Q (F0 m pc ls (.int v :: .ref (ad 66) :: rest)) := zput Z hP hS 66 (gW_mo.trans rfl) (C := RX12) rfl inX12 tyX12_ok nmX12 8 (by decide) rfl rfl hw rfl rfl (Nat.le_of_ble_eq_true rfl) (gS_mo (τ' := (sg τ 6 v)) rfl rfl) hdg kk
theorem fg_66_9 (Z : Zc p s m c cc nL own D cy ad) (hP : va_P D vwCl (gW cy ad σ τ) H) (hw : Cond.fieldLink own index "OneSocketModel" "phones" "[I" ∈ lw_tbl) (hdg : decode cc pc = .ok (.getfield index, 3)) (kk : W p l e R s m args below meth c H locs cells slots Q (F0 m (pc + 3) ls (.ref (ad 68) :: rest))) : W p l e R s m args below meth c H locs cells slots Q (F0 m pc ls (.ref (ad 66) :: rest)) := zget Z hP 66 (gW_mo.trans rfl) (C := RX12) rfl inX12 9 (by decide) rfl hw rfl hdg kk
theorem fg_66_10 (Z : Zc p s m c cc nL own D cy ad) (hP : va_P D vwCl (gW cy ad σ τ) H) (hw : Cond.fieldLink own index "OneSocketModel" "calls" "[I" ∈ lw_tbl) (hdg : decode cc pc = .ok (.getfield index, 3)) (kk : W p l e R s m args below meth c H locs cells slots Q (F0 m (pc + 3) ls (.ref (ad 69) :: rest))) : W p l e R s m args below meth c H locs cells slots Q (F0 m pc ls (.ref (ad 66) :: rest)) := zget Z hP 66 (gW_mo.trans rfl) (C := RX12) rfl inX12 10 (by decide) rfl hw rfl hdg kk
theorem fg_66_11 (Z : Zc p s m c cc nL own D cy ad) (hP : va_P D vwCl (gW cy ad σ τ) H) (hw : Cond.fieldLink own index "OneSocketModel" "darks" "[I" ∈ lw_tbl) (hdg : decode cc pc = .ok (.getfield index, 3)) (kk : W p l e R s m args below meth c H locs cells slots Q (F0 m (pc + 3) ls (.ref (ad 70) :: rest))) : W p l e R s m args below meth c H locs cells slots Q (F0 m pc ls (.ref (ad 66) :: rest)) := zget Z hP 66 (gW_mo.trans rfl) (C := RX12) rfl inX12 11 (by decide) rfl hw rfl hdg kk
theorem fg_66_12 (Z : Zc p s m c cc nL own D cy ad) (hP : va_P D vwCl (gW cy ad σ τ) H) (hw : Cond.fieldLink own index "OneSocketModel" "many" "I" ∈ lw_tbl) (hdg : decode cc pc = .ok (.getfield index, 3)) (kk : W p l e R s m args below meth c H locs cells slots Q (F0 m (pc + 3) ls (.int (τ.1 7) :: rest))) : W p l e R s m args below meth c H locs cells slots Q (F0 m pc ls (.ref (ad 66) :: rest)) := zget Z hP 66 (gW_mo.trans rfl) (C := RX12) rfl inX12 12 (by decide) rfl hw rfl hdg kk
theorem fp_66_12 {v : Int32} (Z : Zc p s m c cc nL own D cy ad) (hP : va_P D vwCl (gW cy ad σ τ) H) (hS : va_S (gA ad) s.heap H locs) (hw : Cond.fieldLink own index "OneSocketModel" "many" "I" ∈ lw_tbl) (hdg : decode cc pc = .ok (.putfield index, 3)) (kk : ∀ (H1 : Heap) (locs1 : List Loc), va_P D vwCl (gW cy ad σ (sg τ 7 v)) H1 → va_S (gA ad) s.heap H1 locs1 → W p l e R s m args below meth c H1 locs1 cells slots Q (F0 m (pc + 3) ls rest)) : W p l e R s m args below meth c H locs cells slots Q (F0 m pc ls (.int v :: .ref (ad 66) :: rest)) := zput Z hP hS 66 (gW_mo.trans rfl) (C := RX12) rfl inX12 tyX12_ok nmX12 12 (by decide) rfl rfl hw rfl rfl (Nat.le_of_ble_eq_true rfl) (gS_mo (τ' := (sg τ 7 v)) rfl rfl) hdg kk
theorem fg_66_13 (Z : Zc p s m c cc nL own D cy ad) (hP : va_P D vwCl (gW cy ad σ τ) H) (hw : Cond.fieldLink own index "OneSocketModel" "callMany" "I" ∈ lw_tbl) (hdg : decode cc pc = .ok (.getfield index, 3)) (kk : W p l e R s m args below meth c H locs cells slots Q (F0 m (pc + 3) ls (.int (τ.1 8) :: rest))) : W p l e R s m args below meth c H locs cells slots Q (F0 m pc ls (.ref (ad 66) :: rest)) := zget Z hP 66 (gW_mo.trans rfl) (C := RX12) rfl inX12 13 (by decide) rfl hw rfl hdg kk
theorem fp_66_13 {v : Int32} (Z : Zc p s m c cc nL own D cy ad) (hP : va_P D vwCl (gW cy ad σ τ) H) (hS : va_S (gA ad) s.heap H locs) (hw : Cond.fieldLink own index "OneSocketModel" "callMany" "I" ∈ lw_tbl) (hdg : decode cc pc = .ok (.putfield index, 3)) (kk : ∀ (H1 : Heap) (locs1 : List Loc), va_P D vwCl (gW cy ad σ (sg τ 8 v)) H1 → va_S (gA ad) s.heap H1 locs1 → W p l e R s m args below meth c H1 locs1 cells slots Q (F0 m (pc + 3) ls rest)) : W p l e R s m args below meth c H locs cells slots Q (F0 m pc ls (.int v :: .ref (ad 66) :: rest)) := zput Z hP hS 66 (gW_mo.trans rfl) (C := RX12) rfl inX12 tyX12_ok nmX12 13 (by decide) rfl rfl hw rfl rfl (Nat.le_of_ble_eq_true rfl) (gS_mo (τ' := (sg τ 8 v)) rfl rfl) hdg kk
theorem fg_66_14 (Z : Zc p s m c cc nL own D cy ad) (hP : va_P D vwCl (gW cy ad σ τ) H) (hw : Cond.fieldLink own index "OneSocketModel" "darkMany" "I" ∈ lw_tbl) (hdg : decode cc pc = .ok (.getfield index, 3)) (kk : W p l e R s m args below meth c H locs cells slots Q (F0 m (pc + 3) ls (.int (τ.1 9) :: rest))) : W p l e R s m args below meth c H locs cells slots Q (F0 m pc ls (.ref (ad 66) :: rest)) := zget Z hP 66 (gW_mo.trans rfl) (C := RX12) rfl inX12 14 (by decide) rfl hw rfl hdg kk
theorem fp_66_14 {v : Int32} (Z : Zc p s m c cc nL own D cy ad) (hP : va_P D vwCl (gW cy ad σ τ) H) (hS : va_S (gA ad) s.heap H locs) (hw : Cond.fieldLink own index "OneSocketModel" "darkMany" "I" ∈ lw_tbl) (hdg : decode cc pc = .ok (.putfield index, 3)) (kk : ∀ (H1 : Heap) (locs1 : List Loc), va_P D vwCl (gW cy ad σ (sg τ 9 v)) H1 → va_S (gA ad) s.heap H1 locs1 → W p l e R s m args below meth c H1 locs1 cells slots Q (F0 m (pc + 3) ls rest)) : W p l e R s m args below meth c H locs cells slots Q (F0 m pc ls (.int v :: .ref (ad 66) :: rest)) := zput Z hP hS 66 (gW_mo.trans rfl) (C := RX12) rfl inX12 tyX12_ok nmX12 14 (by decide) rfl rfl hw rfl rfl (Nat.le_of_ble_eq_true rfl) (gS_mo (τ' := (sg τ 9 v)) rfl rfl) hdg kk
theorem fg_66_15 (Z : Zc p s m c cc nL own D cy ad) (hP : va_P D vwCl (gW cy ad σ τ) H) (hw : Cond.fieldLink own index "OneSocketModel" "holes" "I" ∈ lw_tbl) (hdg : decode cc pc = .ok (.getfield index, 3)) (kk : W p l e R s m args below meth c H locs cells slots Q (F0 m (pc + 3) ls (.int (τ.1 10) :: rest))) : W p l e R s m args below meth c H locs cells slots Q (F0 m pc ls (.ref (ad 66) :: rest)) := zget Z hP 66 (gW_mo.trans rfl) (C := RX12) rfl inX12 15 (by decide) rfl hw rfl hdg kk
theorem fp_66_15 {v : Int32} (Z : Zc p s m c cc nL own D cy ad) (hP : va_P D vwCl (gW cy ad σ τ) H) (hS : va_S (gA ad) s.heap H locs) (hw : Cond.fieldLink own index "OneSocketModel" "holes" "I" ∈ lw_tbl) (hdg : decode cc pc = .ok (.putfield index, 3)) (kk : ∀ (H1 : Heap) (locs1 : List Loc), va_P D vwCl (gW cy ad σ (sg τ 10 v)) H1 → va_S (gA ad) s.heap H1 locs1 → W p l e R s m args below meth c H1 locs1 cells slots Q (F0 m (pc + 3) ls rest)) : W p l e R s m args below meth c H locs cells slots Q (F0 m pc ls (.int v :: .ref (ad 66) :: rest)) := zput Z hP hS 66 (gW_mo.trans rfl) (C := RX12) rfl inX12 tyX12_ok nmX12 15 (by decide) rfl rfl hw rfl rfl (Nat.le_of_ble_eq_true rfl) (gS_mo (τ' := (sg τ 10 v)) rfl rfl) hdg kk
theorem fg_66_16 (Z : Zc p s m c cc nL own D cy ad) (hP : va_P D vwCl (gW cy ad σ τ) H) (hw : Cond.fieldLink own index "OneSocketModel" "draftMany" "I" ∈ lw_tbl) (hdg : decode cc pc = .ok (.getfield index, 3)) (kk : W p l e R s m args below meth c H locs cells slots Q (F0 m (pc + 3) ls (.int (τ.1 11) :: rest))) : W p l e R s m args below meth c H locs cells slots Q (F0 m pc ls (.ref (ad 66) :: rest)) := zget Z hP 66 (gW_mo.trans rfl) (C := RX12) rfl inX12 16 (by decide) rfl hw rfl hdg kk
theorem fp_66_16 {v : Int32} (Z : Zc p s m c cc nL own D cy ad) (hP : va_P D vwCl (gW cy ad σ τ) H) (hS : va_S (gA ad) s.heap H locs) (hw : Cond.fieldLink own index "OneSocketModel" "draftMany" "I" ∈ lw_tbl) (hdg : decode cc pc = .ok (.putfield index, 3)) (kk : ∀ (H1 : Heap) (locs1 : List Loc), va_P D vwCl (gW cy ad σ (sg τ 11 v)) H1 → va_S (gA ad) s.heap H1 locs1 → W p l e R s m args below meth c H1 locs1 cells slots Q (F0 m (pc + 3) ls rest)) : W p l e R s m args below meth c H locs cells slots Q (F0 m pc ls (.int v :: .ref (ad 66) :: rest)) := zput Z hP hS 66 (gW_mo.trans rfl) (C := RX12) rfl inX12 tyX12_ok nmX12 16 (by decide) rfl rfl hw rfl rfl (Nat.le_of_ble_eq_true rfl) (gS_mo (τ' := (sg τ 11 v)) rfl rfl) hdg kk
theorem fg_66_17 (Z : Zc p s m c cc nL own D cy ad) (hP : va_P D vwCl (gW cy ad σ τ) H) (hw : Cond.fieldLink own index "OneSocketModel" "draftCalls" "I" ∈ lw_tbl) (hdg : decode cc pc = .ok (.getfield index, 3)) (kk : W p l e R s m args below meth c H locs cells slots Q (F0 m (pc + 3) ls (.int (τ.1 12) :: rest))) : W p l e R s m args below meth c H locs cells slots Q (F0 m pc ls (.ref (ad 66) :: rest)) := zget Z hP 66 (gW_mo.trans rfl) (C := RX12) rfl inX12 17 (by decide) rfl hw rfl hdg kk
theorem fp_66_17 {v : Int32} (Z : Zc p s m c cc nL own D cy ad) (hP : va_P D vwCl (gW cy ad σ τ) H) (hS : va_S (gA ad) s.heap H locs) (hw : Cond.fieldLink own index "OneSocketModel" "draftCalls" "I" ∈ lw_tbl) (hdg : decode cc pc = .ok (.putfield index, 3)) (kk : ∀ (H1 : Heap) (locs1 : List Loc), va_P D vwCl (gW cy ad σ (sg τ 12 v)) H1 → va_S (gA ad) s.heap H1 locs1 → W p l e R s m args below meth c H1 locs1 cells slots Q (F0 m (pc + 3) ls rest)) : W p l e R s m args below meth c H locs cells slots Q (F0 m pc ls (.int v :: .ref (ad 66) :: rest)) := zput Z hP hS 66 (gW_mo.trans rfl) (C := RX12) rfl inX12 tyX12_ok nmX12 17 (by decide) rfl rfl hw rfl rfl (Nat.le_of_ble_eq_true rfl) (gS_mo (τ' := (sg τ 12 v)) rfl rfl) hdg kk
theorem fg_66_18 (Z : Zc p s m c cc nL own D cy ad) (hP : va_P D vwCl (gW cy ad σ τ) H) (hw : Cond.fieldLink own index "OneSocketModel" "draftDarks" "I" ∈ lw_tbl) (hdg : decode cc pc = .ok (.getfield index, 3)) (kk : W p l e R s m args below meth c H locs cells slots Q (F0 m (pc + 3) ls (.int (τ.1 13) :: rest))) : W p l e R s m args below meth c H locs cells slots Q (F0 m pc ls (.ref (ad 66) :: rest)) := zget Z hP 66 (gW_mo.trans rfl) (C := RX12) rfl inX12 18 (by decide) rfl hw rfl hdg kk
theorem fp_66_18 {v : Int32} (Z : Zc p s m c cc nL own D cy ad) (hP : va_P D vwCl (gW cy ad σ τ) H) (hS : va_S (gA ad) s.heap H locs) (hw : Cond.fieldLink own index "OneSocketModel" "draftDarks" "I" ∈ lw_tbl) (hdg : decode cc pc = .ok (.putfield index, 3)) (kk : ∀ (H1 : Heap) (locs1 : List Loc), va_P D vwCl (gW cy ad σ (sg τ 13 v)) H1 → va_S (gA ad) s.heap H1 locs1 → W p l e R s m args below meth c H1 locs1 cells slots Q (F0 m (pc + 3) ls rest)) : W p l e R s m args below meth c H locs cells slots Q (F0 m pc ls (.int v :: .ref (ad 66) :: rest)) := zput Z hP hS 66 (gW_mo.trans rfl) (C := RX12) rfl inX12 tyX12_ok nmX12 18 (by decide) rfl rfl hw rfl rfl (Nat.le_of_ble_eq_true rfl) (gS_mo (τ' := (sg τ 13 v)) rfl rfl) hdg kk
theorem fg_66_19 (Z : Zc p s m c cc nL own D cy ad) (hP : va_P D vwCl (gW cy ad σ τ) H) (hw : Cond.fieldLink own index "OneSocketModel" "draftHoles" "I" ∈ lw_tbl) (hdg : decode cc pc = .ok (.getfield index, 3)) (kk : W p l e R s m args below meth c H locs cells slots Q (F0 m (pc + 3) ls (.int (τ.1 14) :: rest))) : W p l e R s m args below meth c H locs cells slots Q (F0 m pc ls (.ref (ad 66) :: rest)) := zget Z hP 66 (gW_mo.trans rfl) (C := RX12) rfl inX12 19 (by decide) rfl hw rfl hdg kk
theorem fp_66_19 {v : Int32} (Z : Zc p s m c cc nL own D cy ad) (hP : va_P D vwCl (gW cy ad σ τ) H) (hS : va_S (gA ad) s.heap H locs) (hw : Cond.fieldLink own index "OneSocketModel" "draftHoles" "I" ∈ lw_tbl) (hdg : decode cc pc = .ok (.putfield index, 3)) (kk : ∀ (H1 : Heap) (locs1 : List Loc), va_P D vwCl (gW cy ad σ (sg τ 14 v)) H1 → va_S (gA ad) s.heap H1 locs1 → W p l e R s m args below meth c H1 locs1 cells slots Q (F0 m (pc + 3) ls rest)) : W p l e R s m args below meth c H locs cells slots Q (F0 m pc ls (.int v :: .ref (ad 66) :: rest)) := zput Z hP hS 66 (gW_mo.trans rfl) (C := RX12) rfl inX12 tyX12_ok nmX12 19 (by decide) rfl rfl hw rfl rfl (Nat.le_of_ble_eq_true rfl) (gS_mo (τ' := (sg τ 14 v)) rfl rfl) hdg kk
theorem fg_66_20 (Z : Zc p s m c cc nL own D cy ad) (hP : va_P D vwCl (gW cy ad σ τ) H) (hw : Cond.fieldLink own index "OneSocketModel" "s" "[I" ∈ lw_tbl) (hdg : decode cc pc = .ok (.getfield index, 3)) (kk : W p l e R s m args below meth c H locs cells slots Q (F0 m (pc + 3) ls (.ref (ad 71) :: rest))) : W p l e R s m args below meth c H locs cells slots Q (F0 m pc ls (.ref (ad 66) :: rest)) := zget Z hP 66 (gW_mo.trans rfl) (C := RX12) rfl inX12 20 (by decide) rfl hw rfl hdg kk
theorem fg_66_21 (Z : Zc p s m c cc nL own D cy ad) (hP : va_P D vwCl (gW cy ad σ τ) H) (hw : Cond.fieldLink own index "OneSocketModel" "w" "[I" ∈ lw_tbl) (hdg : decode cc pc = .ok (.getfield index, 3)) (kk : W p l e R s m args below meth c H locs cells slots Q (F0 m (pc + 3) ls (.ref (ad 72) :: rest))) : W p l e R s m args below meth c H locs cells slots Q (F0 m pc ls (.ref (ad 66) :: rest)) := zget Z hP 66 (gW_mo.trans rfl) (C := RX12) rfl inX12 21 (by decide) rfl hw rfl hdg kk
theorem fg_66_22 (Z : Zc p s m c cc nL own D cy ad) (hP : va_P D vwCl (gW cy ad σ τ) H) (hw : Cond.fieldLink own index "OneSocketModel" "kept" "[I" ∈ lw_tbl) (hdg : decode cc pc = .ok (.getfield index, 3)) (kk : W p l e R s m args below meth c H locs cells slots Q (F0 m (pc + 3) ls (.ref (ad 73) :: rest))) : W p l e R s m args below meth c H locs cells slots Q (F0 m pc ls (.ref (ad 66) :: rest)) := zget Z hP 66 (gW_mo.trans rfl) (C := RX12) rfl inX12 22 (by decide) rfl hw rfl hdg kk
theorem fg_66_23 (Z : Zc p s m c cc nL own D cy ad) (hP : va_P D vwCl (gW cy ad σ τ) H) (hw : Cond.fieldLink own index "OneSocketModel" "isKept" "[Z" ∈ lw_tbl) (hdg : decode cc pc = .ok (.getfield index, 3)) (kk : W p l e R s m args below meth c H locs cells slots Q (F0 m (pc + 3) ls (.ref (ad 79) :: rest))) : W p l e R s m args below meth c H locs cells slots Q (F0 m pc ls (.ref (ad 66) :: rest)) := zget Z hP 66 (gW_mo.trans rfl) (C := RX12) rfl inX12 23 (by decide) rfl hw rfl hdg kk
theorem fg_66_24 (Z : Zc p s m c cc nL own D cy ad) (hP : va_P D vwCl (gW cy ad σ τ) H) (hw : Cond.fieldLink own index "OneSocketModel" "undos" "[I" ∈ lw_tbl) (hdg : decode cc pc = .ok (.getfield index, 3)) (kk : W p l e R s m args below meth c H locs cells slots Q (F0 m (pc + 3) ls (.ref (ad 74) :: rest))) : W p l e R s m args below meth c H locs cells slots Q (F0 m pc ls (.ref (ad 66) :: rest)) := zget Z hP 66 (gW_mo.trans rfl) (C := RX12) rfl inX12 24 (by decide) rfl hw rfl hdg kk
theorem fg_66_25 (Z : Zc p s m c cc nL own D cy ad) (hP : va_P D vwCl (gW cy ad σ τ) H) (hw : Cond.fieldLink own index "OneSocketModel" "undoMany" "I" ∈ lw_tbl) (hdg : decode cc pc = .ok (.getfield index, 3)) (kk : W p l e R s m args below meth c H locs cells slots Q (F0 m (pc + 3) ls (.int (τ.1 15) :: rest))) : W p l e R s m args below meth c H locs cells slots Q (F0 m pc ls (.ref (ad 66) :: rest)) := zget Z hP 66 (gW_mo.trans rfl) (C := RX12) rfl inX12 25 (by decide) rfl hw rfl hdg kk
theorem fp_66_25 {v : Int32} (Z : Zc p s m c cc nL own D cy ad) (hP : va_P D vwCl (gW cy ad σ τ) H) (hS : va_S (gA ad) s.heap H locs) (hw : Cond.fieldLink own index "OneSocketModel" "undoMany" "I" ∈ lw_tbl) (hdg : decode cc pc = .ok (.putfield index, 3)) (kk : ∀ (H1 : Heap) (locs1 : List Loc), va_P D vwCl (gW cy ad σ (sg τ 15 v)) H1 → va_S (gA ad) s.heap H1 locs1 → W p l e R s m args below meth c H1 locs1 cells slots Q (F0 m (pc + 3) ls rest)) : W p l e R s m args below meth c H locs cells slots Q (F0 m pc ls (.int v :: .ref (ad 66) :: rest)) := zput Z hP hS 66 (gW_mo.trans rfl) (C := RX12) rfl inX12 tyX12_ok nmX12 25 (by decide) rfl rfl hw rfl rfl (Nat.le_of_ble_eq_true rfl) (gS_mo (τ' := (sg τ 15 v)) rfl rfl) hdg kk
theorem fg_66_26 (Z : Zc p s m c cc nL own D cy ad) (hP : va_P D vwCl (gW cy ad σ τ) H) (hw : Cond.fieldLink own index "OneSocketModel" "said" "[I" ∈ lw_tbl) (hdg : decode cc pc = .ok (.getfield index, 3)) (kk : W p l e R s m args below meth c H locs cells slots Q (F0 m (pc + 3) ls (.ref (ad 75) :: rest))) : W p l e R s m args below meth c H locs cells slots Q (F0 m pc ls (.ref (ad 66) :: rest)) := zget Z hP 66 (gW_mo.trans rfl) (C := RX12) rfl inX12 26 (by decide) rfl hw rfl hdg kk
theorem fg_66_27 (Z : Zc p s m c cc nL own D cy ad) (hP : va_P D vwCl (gW cy ad σ τ) H) (hw : Cond.fieldLink own index "OneSocketModel" "saidMany" "I" ∈ lw_tbl) (hdg : decode cc pc = .ok (.getfield index, 3)) (kk : W p l e R s m args below meth c H locs cells slots Q (F0 m (pc + 3) ls (.int (τ.1 16) :: rest))) : W p l e R s m args below meth c H locs cells slots Q (F0 m pc ls (.ref (ad 66) :: rest)) := zget Z hP 66 (gW_mo.trans rfl) (C := RX12) rfl inX12 27 (by decide) rfl hw rfl hdg kk
theorem fp_66_27 {v : Int32} (Z : Zc p s m c cc nL own D cy ad) (hP : va_P D vwCl (gW cy ad σ τ) H) (hS : va_S (gA ad) s.heap H locs) (hw : Cond.fieldLink own index "OneSocketModel" "saidMany" "I" ∈ lw_tbl) (hdg : decode cc pc = .ok (.putfield index, 3)) (kk : ∀ (H1 : Heap) (locs1 : List Loc), va_P D vwCl (gW cy ad σ (sg τ 16 v)) H1 → va_S (gA ad) s.heap H1 locs1 → W p l e R s m args below meth c H1 locs1 cells slots Q (F0 m (pc + 3) ls rest)) : W p l e R s m args below meth c H locs cells slots Q (F0 m pc ls (.int v :: .ref (ad 66) :: rest)) := zput Z hP hS 66 (gW_mo.trans rfl) (C := RX12) rfl inX12 tyX12_ok nmX12 27 (by decide) rfl rfl hw rfl rfl (Nat.le_of_ble_eq_true rfl) (gS_mo (τ' := (sg τ 16 v)) rfl rfl) hdg kk
theorem fg_66_28 (Z : Zc p s m c cc nL own D cy ad) (hP : va_P D vwCl (gW cy ad σ τ) H) (hw : Cond.fieldLink own index "OneSocketModel" "row" "[I" ∈ lw_tbl) (hdg : decode cc pc = .ok (.getfield index, 3)) (kk : W p l e R s m args below meth c H locs cells slots Q (F0 m (pc + 3) ls (.ref (ad 76) :: rest))) : W p l e R s m args below meth c H locs cells slots Q (F0 m pc ls (.ref (ad 66) :: rest)) := zget Z hP 66 (gW_mo.trans rfl) (C := RX12) rfl inX12 28 (by decide) rfl hw rfl hdg kk
theorem fg_66_29 (Z : Zc p s m c cc nL own D cy ad) (hP : va_P D vwCl (gW cy ad σ τ) H) (hw : Cond.fieldLink own index "OneSocketModel" "best" "[I" ∈ lw_tbl) (hdg : decode cc pc = .ok (.getfield index, 3)) (kk : W p l e R s m args below meth c H locs cells slots Q (F0 m (pc + 3) ls (.ref (ad 77) :: rest))) : W p l e R s m args below meth c H locs cells slots Q (F0 m pc ls (.ref (ad 66) :: rest)) := zget Z hP 66 (gW_mo.trans rfl) (C := RX12) rfl inX12 29 (by decide) rfl hw rfl hdg kk
theorem fg_66_30 (Z : Zc p s m c cc nL own D cy ad) (hP : va_P D vwCl (gW cy ad σ τ) H) (hw : Cond.fieldLink own index "OneSocketModel" "likely" "[J" ∈ lw_tbl) (hdg : decode cc pc = .ok (.getfield index, 3)) (kk : W p l e R s m args below meth c H locs cells slots Q (F0 m (pc + 3) ls (.ref (ad 80) :: rest))) : W p l e R s m args below meth c H locs cells slots Q (F0 m pc ls (.ref (ad 66) :: rest)) := zget Z hP 66 (gW_mo.trans rfl) (C := RX12) rfl inX12 30 (by decide) rfl hw rfl hdg kk
theorem fg_66_31 (Z : Zc p s m c cc nL own D cy ad) (hP : va_P D vwCl (gW cy ad σ τ) H) (hw : Cond.fieldLink own index "OneSocketModel" "then" "[J" ∈ lw_tbl) (hdg : decode cc pc = .ok (.getfield index, 3)) (kk : W p l e R s m args below meth c H locs cells slots Q (F0 m (pc + 3) ls (.ref (ad 81) :: rest))) : W p l e R s m args below meth c H locs cells slots Q (F0 m pc ls (.ref (ad 66) :: rest)) := zget Z hP 66 (gW_mo.trans rfl) (C := RX12) rfl inX12 31 (by decide) rfl hw rfl hdg kk
theorem fg_66_32 (Z : Zc p s m c cc nL own D cy ad) (hP : va_P D vwCl (gW cy ad σ τ) H) (hw : Cond.fieldLink own index "OneSocketModel" "choices" "[I" ∈ lw_tbl) (hdg : decode cc pc = .ok (.getfield index, 3)) (kk : W p l e R s m args below meth c H locs cells slots Q (F0 m (pc + 3) ls (.ref (ad 78) :: rest))) : W p l e R s m args below meth c H locs cells slots Q (F0 m pc ls (.ref (ad 66) :: rest)) := zget Z hP 66 (gW_mo.trans rfl) (C := RX12) rfl inX12 32 (by decide) rfl hw rfl hdg kk
theorem fg_66_33 (Z : Zc p s m c cc nL own D cy ad) (hP : va_P D vwCl (gW cy ad σ τ) H) (hw : Cond.fieldLink own index "OneSocketModel" "choiceMany" "I" ∈ lw_tbl) (hdg : decode cc pc = .ok (.getfield index, 3)) (kk : W p l e R s m args below meth c H locs cells slots Q (F0 m (pc + 3) ls (.int (τ.1 17) :: rest))) : W p l e R s m args below meth c H locs cells slots Q (F0 m pc ls (.ref (ad 66) :: rest)) := zget Z hP 66 (gW_mo.trans rfl) (C := RX12) rfl inX12 33 (by decide) rfl hw rfl hdg kk
theorem fp_66_33 {v : Int32} (Z : Zc p s m c cc nL own D cy ad) (hP : va_P D vwCl (gW cy ad σ τ) H) (hS : va_S (gA ad) s.heap H locs) (hw : Cond.fieldLink own index "OneSocketModel" "choiceMany" "I" ∈ lw_tbl) (hdg : decode cc pc = .ok (.putfield index, 3)) (kk : ∀ (H1 : Heap) (locs1 : List Loc), va_P D vwCl (gW cy ad σ (sg τ 17 v)) H1 → va_S (gA ad) s.heap H1 locs1 → W p l e R s m args below meth c H1 locs1 cells slots Q (F0 m (pc + 3) ls rest)) : W p l e R s m args below meth c H locs cells slots Q (F0 m pc ls (.int v :: .ref (ad 66) :: rest)) := zput Z hP hS 66 (gW_mo.trans rfl) (C := RX12) rfl inX12 tyX12_ok nmX12 33 (by decide) rfl rfl hw rfl rfl (Nat.le_of_ble_eq_true rfl) (gS_mo (τ' := (sg τ 17 v)) rfl rfl) hdg kk
theorem fg_66_34 (Z : Zc p s m c cc nL own D cy ad) (hP : va_P D vwCl (gW cy ad σ τ) H) (hw : Cond.fieldLink own index "OneSocketModel" "bestMissed" "I" ∈ lw_tbl) (hdg : decode cc pc = .ok (.getfield index, 3)) (kk : W p l e R s m args below meth c H locs cells slots Q (F0 m (pc + 3) ls (.int (τ.1 18) :: rest))) : W p l e R s m args below meth c H locs cells slots Q (F0 m pc ls (.ref (ad 66) :: rest)) := zget Z hP 66 (gW_mo.trans rfl) (C := RX12) rfl inX12 34 (by decide) rfl hw rfl hdg kk
theorem fp_66_34 {v : Int32} (Z : Zc p s m c cc nL own D cy ad) (hP : va_P D vwCl (gW cy ad σ τ) H) (hS : va_S (gA ad) s.heap H locs) (hw : Cond.fieldLink own index "OneSocketModel" "bestMissed" "I" ∈ lw_tbl) (hdg : decode cc pc = .ok (.putfield index, 3)) (kk : ∀ (H1 : Heap) (locs1 : List Loc), va_P D vwCl (gW cy ad σ (sg τ 18 v)) H1 → va_S (gA ad) s.heap H1 locs1 → W p l e R s m args below meth c H1 locs1 cells slots Q (F0 m (pc + 3) ls rest)) : W p l e R s m args below meth c H locs cells slots Q (F0 m pc ls (.int v :: .ref (ad 66) :: rest)) := zput Z hP hS 66 (gW_mo.trans rfl) (C := RX12) rfl inX12 tyX12_ok nmX12 34 (by decide) rfl rfl hw rfl rfl (Nat.le_of_ble_eq_true rfl) (gS_mo (τ' := (sg τ 18 v)) rfl rfl) hdg kk
theorem fg_66_35 (Z : Zc p s m c cc nL own D cy ad) (hP : va_P D vwCl (gW cy ad σ τ) H) (hw : Cond.fieldLink own index "OneSocketModel" "bestOut" "I" ∈ lw_tbl) (hdg : decode cc pc = .ok (.getfield index, 3)) (kk : W p l e R s m args below meth c H locs cells slots Q (F0 m (pc + 3) ls (.int (τ.1 19) :: rest))) : W p l e R s m args below meth c H locs cells slots Q (F0 m pc ls (.ref (ad 66) :: rest)) := zget Z hP 66 (gW_mo.trans rfl) (C := RX12) rfl inX12 35 (by decide) rfl hw rfl hdg kk
theorem fp_66_35 {v : Int32} (Z : Zc p s m c cc nL own D cy ad) (hP : va_P D vwCl (gW cy ad σ τ) H) (hS : va_S (gA ad) s.heap H locs) (hw : Cond.fieldLink own index "OneSocketModel" "bestOut" "I" ∈ lw_tbl) (hdg : decode cc pc = .ok (.putfield index, 3)) (kk : ∀ (H1 : Heap) (locs1 : List Loc), va_P D vwCl (gW cy ad σ (sg τ 19 v)) H1 → va_S (gA ad) s.heap H1 locs1 → W p l e R s m args below meth c H1 locs1 cells slots Q (F0 m (pc + 3) ls rest)) : W p l e R s m args below meth c H locs cells slots Q (F0 m pc ls (.int v :: .ref (ad 66) :: rest)) := zput Z hP hS 66 (gW_mo.trans rfl) (C := RX12) rfl inX12 tyX12_ok nmX12 35 (by decide) rfl rfl hw rfl rfl (Nat.le_of_ble_eq_true rfl) (gS_mo (τ' := (sg τ 19 v)) rfl rfl) hdg kk
theorem fg_66_36 (Z : Zc p s m c cc nL own D cy ad) (hP : va_P D vwCl (gW cy ad σ τ) H) (hw : Cond.fieldLink own index "OneSocketModel" "bestUp" "I" ∈ lw_tbl) (hdg : decode cc pc = .ok (.getfield index, 3)) (kk : W p l e R s m args below meth c H locs cells slots Q (F0 m (pc + 3) ls (.int (τ.1 20) :: rest))) : W p l e R s m args below meth c H locs cells slots Q (F0 m pc ls (.ref (ad 66) :: rest)) := zget Z hP 66 (gW_mo.trans rfl) (C := RX12) rfl inX12 36 (by decide) rfl hw rfl hdg kk
theorem fp_66_36 {v : Int32} (Z : Zc p s m c cc nL own D cy ad) (hP : va_P D vwCl (gW cy ad σ τ) H) (hS : va_S (gA ad) s.heap H locs) (hw : Cond.fieldLink own index "OneSocketModel" "bestUp" "I" ∈ lw_tbl) (hdg : decode cc pc = .ok (.putfield index, 3)) (kk : ∀ (H1 : Heap) (locs1 : List Loc), va_P D vwCl (gW cy ad σ (sg τ 20 v)) H1 → va_S (gA ad) s.heap H1 locs1 → W p l e R s m args below meth c H1 locs1 cells slots Q (F0 m (pc + 3) ls rest)) : W p l e R s m args below meth c H locs cells slots Q (F0 m pc ls (.int v :: .ref (ad 66) :: rest)) := zput Z hP hS 66 (gW_mo.trans rfl) (C := RX12) rfl inX12 tyX12_ok nmX12 36 (by decide) rfl rfl hw rfl rfl (Nat.le_of_ble_eq_true rfl) (gS_mo (τ' := (sg τ 20 v)) rfl rfl) hdg kk
end FR
end
section
def m_X11_isWithin (x0 : Int32) (x1 : Int32) (x2 : Int32) : Option (Int32) :=
  if x0 < x1 then (some 0) else (if x2 < x0 then (some 0) else (some 1))
set_option maxHeartbeats 4000000 in
set_option maxRecDepth 100000 in
theorem c_X11_isWithin {l : Launch} {D : va_G} {cy : Nat → ClassId} {ad : Nat → Nat} {σ τ : Sx} (hI : gInj ad) {R : Room} (hRf : 0 ≤ R.frames) (hRl : 0 ≤ R.locals) {x0 : Int32} {x1 : Int32} {x2 : Int32} {out : Int32} (h : m_X11_isWithin x0 x1 x2 = some out) : Met l yX11_isWithin [Cond.code yX11_isWithin cX11_isWithin 3 (some .boolean)] R (va_Pc [.int x0, .int x1, .int x2] (gB D cy ad σ τ)) (rQi out) 0 0 noA := by
  refine zstart [.int x0, .int x1, .int x2] (by decide) rfl hI (Nat.le_of_ble_eq_true rfl) ?_
  intro p e s m below meth c Z hr hlk hP ls hl
  have hx := Z.x
  have hb := Z.b
  generalize hargs : ([.int x0, .int x1, .int x2] : List Value).toArray = args
  have hl : lv_has ls 3 [(0, .int x0), (1, .int x1), (2, .int x2)] := hl
  unfold m_X11_isWithin at h
  refine lv_iload_n hx hb dX11_isWithin_0 rfl (lv_at hl 0 rfl) ?_
  refine lv_iload_n hx hb dX11_isWithin_1 rfl (lv_at hl 1 rfl) ?_
  refine lv_icmp_lt (tgt := 14) hx hb dX11_isWithin_2 (by decide) (fun c1 => ?_) (fun c1 => ?_)
  · rw [if_pos c1] at h
    refine lv_iconst (v := 0) hx hb dX11_isWithin_14 (by decide) ?_
    exact zrzc Z hr hlk (Or.inl rfl) h dX11_isWithin_15
  · rw [if_neg c1] at h
    refine lv_iload_n hx hb dX11_isWithin_5 rfl (lv_at hl 0 rfl) ?_
    refine lv_iload_n hx hb dX11_isWithin_6 rfl (lv_at hl 2 rfl) ?_
    refine lv_icmp_gt (tgt := 14) hx hb dX11_isWithin_7 (by decide) (fun c2 => ?_) (fun c2 => ?_)
    · rw [if_pos c2] at h
      refine lv_iconst (v := 0) hx hb dX11_isWithin_14 (by decide) ?_
      exact zrzc Z hr hlk (Or.inl rfl) h dX11_isWithin_15
    · rw [if_neg c2] at h
      refine lv_iconst (v := 1) hx hb dX11_isWithin_10 (by decide) ?_
      refine lv_goto (tgt := 15) hx hb dX11_isWithin_11 (by decide) ?_
      exact zrzc Z hr hlk (Or.inr rfl) h dX11_isWithin_15
def m_J6_bitCount_0f7a4 (x0 : Int32) : Option (Int32) :=
  (some ((((x0 - (((Int32.toUInt32 x0 >>> (Int32.toUInt32 1 &&& Int32.toUInt32 31)).toInt32) &&& 1431655765)) &&& 858993459) + (((Int32.toUInt32 ((x0 - (((Int32.toUInt32 x0 >>> (Int32.toUInt32 1 &&& Int32.toUInt32 31)).toInt32) &&& 1431655765))) >>> (Int32.toUInt32 2 &&& Int32.toUInt32 31)).toInt32) &&& 858993459)))).bind (fun v1 => (some ((((v1 + ((Int32.toUInt32 v1 >>> (Int32.toUInt32 4 &&& Int32.toUInt32 31)).toInt32)) &&& 252645135) + ((Int32.toUInt32 (((v1 + ((Int32.toUInt32 v1 >>> (Int32.toUInt32 4 &&& Int32.toUInt32 31)).toInt32)) &&& 252645135)) >>> (Int32.toUInt32 8 &&& Int32.toUInt32 31)).toInt32)))).bind (fun v2 => some (((v2 + ((Int32.toUInt32 v2 >>> (Int32.toUInt32 16 &&& Int32.toUInt32 31)).toInt32)) &&& 63))))
set_option maxHeartbeats 4000000 in
set_option maxRecDepth 100000 in
theorem c_J6_bitCount_0f7a4 {l : Launch} {D : va_G} {cy : Nat → ClassId} {ad : Nat → Nat} {σ τ : Sx} (hI : gInj ad) {R : Room} (hRf : 0 ≤ R.frames) (hRl : 0 ≤ R.locals) {x0 : Int32} {out : Int32} (h : m_J6_bitCount_0f7a4 x0 = some out) : Met l yJ6_bitCount_0f7a4 [Cond.code yJ6_bitCount_0f7a4 cJ6_bitCount_0f7a4 1 (some .int)] R (va_Pc [.int x0] (gB D cy ad σ τ)) (rQi out) 0 0 noA := by
  refine zstart [.int x0] (by decide) rfl hI (Nat.le_of_ble_eq_true rfl) ?_
  intro p e s m below meth c Z hr hlk hP ls hl
  have hx := Z.x
  have hb := Z.b
  generalize hargs : ([.int x0] : List Value).toArray = args
  have hl : lv_has ls 1 [(0, .int x0)] := hl
  unfold m_J6_bitCount_0f7a4 at h
  refine lv_iload_n hx hb dJ6_bitCount_0f7a4_0 rfl (lv_at hl 0 rfl) ?_
  refine lv_iload_n hx hb dJ6_bitCount_0f7a4_1 rfl (lv_at hl 0 rfl) ?_
  refine lv_iconst (v := 1) hx hb dJ6_bitCount_0f7a4_2 (by decide) ?_
  refine lv_iushr (v := (Int32.toUInt32 x0 >>> (Int32.toUInt32 1 &&& Int32.toUInt32 31)).toInt32) hx hb dJ6_bitCount_0f7a4_3 rfl ?_
  refine lv_ldcw hx hb Z.o (Z.t _ wK_J6_265 rfl _) dJ6_bitCount_0f7a4_4 ?_
  refine lv_iand hx hb dJ6_bitCount_0f7a4_7 ?_
  refine lv_isub hx hb dJ6_bitCount_0f7a4_8 ?_
  refine lv_istore_n (lv' := [(0, .int (x0 - (((Int32.toUInt32 x0 >>> (Int32.toUInt32 1 &&& Int32.toUInt32 31)).toInt32) &&& 1431655765)))]) hx hb dJ6_bitCount_0f7a4_9 rfl hl (by decide) rfl (fun ls hl => ?_)
  refine lv_iload_n hx hb dJ6_bitCount_0f7a4_10 rfl (lv_at hl 0 rfl) ?_
  refine lv_ldcw hx hb Z.o (Z.t _ wK_J6_266 rfl _) dJ6_bitCount_0f7a4_11 ?_
  refine lv_iand hx hb dJ6_bitCount_0f7a4_14 ?_
  refine lv_iload_n hx hb dJ6_bitCount_0f7a4_15 rfl (lv_at hl 0 rfl) ?_
  refine lv_iconst (v := 2) hx hb dJ6_bitCount_0f7a4_16 (by decide) ?_
  refine lv_iushr (v := (Int32.toUInt32 ((x0 - (((Int32.toUInt32 x0 >>> (Int32.toUInt32 1 &&& Int32.toUInt32 31)).toInt32) &&& 1431655765))) >>> (Int32.toUInt32 2 &&& Int32.toUInt32 31)).toInt32) hx hb dJ6_bitCount_0f7a4_17 rfl ?_
  refine lv_ldcw hx hb Z.o (Z.t _ wK_J6_266 rfl _) dJ6_bitCount_0f7a4_18 ?_
  refine lv_iand hx hb dJ6_bitCount_0f7a4_21 ?_
  refine lv_iadd hx hb dJ6_bitCount_0f7a4_22 ?_
  obtain ⟨v1, hv1, h⟩ := bd h
  refine lv_topi (fun w9 e9 => ?_)
  have e8 : v1 = w9 := (e9.trans (Option.some.inj hv1)).symm
  subst e8
  refine lv_istore_n (lv' := [(0, .int v1)]) hx hb dJ6_bitCount_0f7a4_23 rfl hl (by decide) rfl (fun ls hl => ?_)
  refine lv_iload_n hx hb dJ6_bitCount_0f7a4_24 rfl (lv_at hl 0 rfl) ?_
  refine lv_iload_n hx hb dJ6_bitCount_0f7a4_25 rfl (lv_at hl 0 rfl) ?_
  refine lv_iconst (v := 4) hx hb dJ6_bitCount_0f7a4_26 (by decide) ?_
  refine lv_iushr (v := (Int32.toUInt32 v1 >>> (Int32.toUInt32 4 &&& Int32.toUInt32 31)).toInt32) hx hb dJ6_bitCount_0f7a4_27 rfl ?_
  refine lv_iadd hx hb dJ6_bitCount_0f7a4_28 ?_
  refine lv_ldcw hx hb Z.o (Z.t _ wK_J6_267 rfl _) dJ6_bitCount_0f7a4_29 ?_
  refine lv_iand hx hb dJ6_bitCount_0f7a4_32 ?_
  refine lv_istore_n (lv' := [(0, .int ((v1 + ((Int32.toUInt32 v1 >>> (Int32.toUInt32 4 &&& Int32.toUInt32 31)).toInt32)) &&& 252645135))]) hx hb dJ6_bitCount_0f7a4_33 rfl hl (by decide) rfl (fun ls hl => ?_)
  refine lv_iload_n hx hb dJ6_bitCount_0f7a4_34 rfl (lv_at hl 0 rfl) ?_
  refine lv_iload_n hx hb dJ6_bitCount_0f7a4_35 rfl (lv_at hl 0 rfl) ?_
  refine lv_bipush (v := 8) hx hb dJ6_bitCount_0f7a4_36 (by decide) ?_
  refine lv_iushr (v := (Int32.toUInt32 (((v1 + ((Int32.toUInt32 v1 >>> (Int32.toUInt32 4 &&& Int32.toUInt32 31)).toInt32)) &&& 252645135)) >>> (Int32.toUInt32 8 &&& Int32.toUInt32 31)).toInt32) hx hb dJ6_bitCount_0f7a4_38 rfl ?_
  refine lv_iadd hx hb dJ6_bitCount_0f7a4_39 ?_
  obtain ⟨v2, hv2, h⟩ := bd h
  refine lv_topi (fun w9 e9 => ?_)
  have e8 : v2 = w9 := (e9.trans (Option.some.inj hv2)).symm
  subst e8
  refine lv_istore_n (lv' := [(0, .int v2)]) hx hb dJ6_bitCount_0f7a4_40 rfl hl (by decide) rfl (fun ls hl => ?_)
  refine lv_iload_n hx hb dJ6_bitCount_0f7a4_41 rfl (lv_at hl 0 rfl) ?_
  refine lv_iload_n hx hb dJ6_bitCount_0f7a4_42 rfl (lv_at hl 0 rfl) ?_
  refine lv_bipush (v := 16) hx hb dJ6_bitCount_0f7a4_43 (by decide) ?_
  refine lv_iushr (v := (Int32.toUInt32 v2 >>> (Int32.toUInt32 16 &&& Int32.toUInt32 31)).toInt32) hx hb dJ6_bitCount_0f7a4_45 rfl ?_
  refine lv_iadd hx hb dJ6_bitCount_0f7a4_46 ?_
  refine lv_istore_n (lv' := [(0, .int (v2 + ((Int32.toUInt32 v2 >>> (Int32.toUInt32 16 &&& Int32.toUInt32 31)).toInt32)))]) hx hb dJ6_bitCount_0f7a4_47 rfl hl (by decide) rfl (fun ls hl => ?_)
  refine lv_iload_n hx hb dJ6_bitCount_0f7a4_48 rfl (lv_at hl 0 rfl) ?_
  refine lv_bipush (v := 63) hx hb dJ6_bitCount_0f7a4_49 (by decide) ?_
  refine lv_iand hx hb dJ6_bitCount_0f7a4_51 ?_
  exact zri Z hr hlk h dJ6_bitCount_0f7a4_52
def m_X7_isDigit (x0 : Int32) : Option (Int32) :=
  if x0 < 48 then (some 0) else (if 57 < x0 then (some 0) else (some 1))
set_option maxHeartbeats 4000000 in
set_option maxRecDepth 100000 in
theorem c_X7_isDigit {l : Launch} {D : va_G} {cy : Nat → ClassId} {ad : Nat → Nat} {σ τ : Sx} (hI : gInj ad) {R : Room} (hRf : 0 ≤ R.frames) (hRl : 0 ≤ R.locals) {x0 : Int32} {out : Int32} (h : m_X7_isDigit x0 = some out) : Met l yX7_isDigit [Cond.code yX7_isDigit cX7_isDigit 1 (some .boolean)] R (va_Pc [.int x0] (gB D cy ad σ τ)) (rQi out) 0 0 noA := by
  refine zstart [.int x0] (by decide) rfl hI (Nat.le_of_ble_eq_true rfl) ?_
  intro p e s m below meth c Z hr hlk hP ls hl
  have hx := Z.x
  have hb := Z.b
  generalize hargs : ([.int x0] : List Value).toArray = args
  have hl : lv_has ls 1 [(0, .int x0)] := hl
  unfold m_X7_isDigit at h
  refine lv_iload_n hx hb dX7_isDigit_0 rfl (lv_at hl 0 rfl) ?_
  refine lv_bipush (v := 48) hx hb dX7_isDigit_1 (by decide) ?_
  refine lv_icmp_lt (tgt := 16) hx hb dX7_isDigit_3 (by decide) (fun c1 => ?_) (fun c1 => ?_)
  · rw [if_pos c1] at h
    refine lv_iconst (v := 0) hx hb dX7_isDigit_16 (by decide) ?_
    exact zrzc Z hr hlk (Or.inl rfl) h dX7_isDigit_17
  · rw [if_neg c1] at h
    refine lv_iload_n hx hb dX7_isDigit_6 rfl (lv_at hl 0 rfl) ?_
    refine lv_bipush (v := 57) hx hb dX7_isDigit_7 (by decide) ?_
    refine lv_icmp_gt (tgt := 16) hx hb dX7_isDigit_9 (by decide) (fun c2 => ?_) (fun c2 => ?_)
    · rw [if_pos c2] at h
      refine lv_iconst (v := 0) hx hb dX7_isDigit_16 (by decide) ?_
      exact zrzc Z hr hlk (Or.inl rfl) h dX7_isDigit_17
    · rw [if_neg c2] at h
      refine lv_iconst (v := 1) hx hb dX7_isDigit_12 (by decide) ?_
      refine lv_goto (tgt := 17) hx hb dX7_isDigit_13 (by decide) ?_
      exact zrzc Z hr hlk (Or.inr rfl) h dX7_isDigit_17
def m_X7_isSign (x0 : Int32) : Option (Int32) :=
  if x0 = 116 then (some 1) else (if x0 = 104 then (some 1) else (if x0 = 99 then (some 1) else (if x0 = 100 then (some 1) else (if x0 = 59 then (some 1) else (some 0)))))
set_option maxHeartbeats 4000000 in
set_option maxRecDepth 100000 in
theorem c_X7_isSign {l : Launch} {D : va_G} {cy : Nat → ClassId} {ad : Nat → Nat} {σ τ : Sx} (hI : gInj ad) {R : Room} (hRf : 0 ≤ R.frames) (hRl : 0 ≤ R.locals) {x0 : Int32} {out : Int32} (h : m_X7_isSign x0 = some out) : Met l yX7_isSign [Cond.code yX7_isSign cX7_isSign 1 (some .boolean)] R (va_Pc [.int x0] (gB D cy ad σ τ)) (rQi out) 0 0 noA := by
  refine zstart [.int x0] (by decide) rfl hI (Nat.le_of_ble_eq_true rfl) ?_
  intro p e s m below meth c Z hr hlk hP ls hl
  have hx := Z.x
  have hb := Z.b
  generalize hargs : ([.int x0] : List Value).toArray = args
  have hl : lv_has ls 1 [(0, .int x0)] := hl
  unfold m_X7_isSign at h
  refine lv_iload_n hx hb dX7_isSign_0 rfl (lv_at hl 0 rfl) ?_
  refine lv_bipush (v := 116) hx hb dX7_isSign_1 (by decide) ?_
  refine lv_icmp_eq (tgt := 30) hx hb dX7_isSign_3 (by decide) (fun c1 => ?_) (fun c1 => ?_)
  · rw [if_pos c1] at h
    refine lv_iconst (v := 1) hx hb dX7_isSign_30 (by decide) ?_
    refine lv_goto (tgt := 35) hx hb dX7_isSign_31 (by decide) ?_
    exact zrzc Z hr hlk (Or.inr rfl) h dX7_isSign_35
  · rw [if_neg c1] at h
    refine lv_iload_n hx hb dX7_isSign_6 rfl (lv_at hl 0 rfl) ?_
    refine lv_bipush (v := 104) hx hb dX7_isSign_7 (by decide) ?_
    refine lv_icmp_eq (tgt := 30) hx hb dX7_isSign_9 (by decide) (fun c2 => ?_) (fun c2 => ?_)
    · rw [if_pos c2] at h
      refine lv_iconst (v := 1) hx hb dX7_isSign_30 (by decide) ?_
      refine lv_goto (tgt := 35) hx hb dX7_isSign_31 (by decide) ?_
      exact zrzc Z hr hlk (Or.inr rfl) h dX7_isSign_35
    · rw [if_neg c2] at h
      refine lv_iload_n hx hb dX7_isSign_12 rfl (lv_at hl 0 rfl) ?_
      refine lv_bipush (v := 99) hx hb dX7_isSign_13 (by decide) ?_
      refine lv_icmp_eq (tgt := 30) hx hb dX7_isSign_15 (by decide) (fun c3 => ?_) (fun c3 => ?_)
      · rw [if_pos c3] at h
        refine lv_iconst (v := 1) hx hb dX7_isSign_30 (by decide) ?_
        refine lv_goto (tgt := 35) hx hb dX7_isSign_31 (by decide) ?_
        exact zrzc Z hr hlk (Or.inr rfl) h dX7_isSign_35
      · rw [if_neg c3] at h
        refine lv_iload_n hx hb dX7_isSign_18 rfl (lv_at hl 0 rfl) ?_
        refine lv_bipush (v := 100) hx hb dX7_isSign_19 (by decide) ?_
        refine lv_icmp_eq (tgt := 30) hx hb dX7_isSign_21 (by decide) (fun c4 => ?_) (fun c4 => ?_)
        · rw [if_pos c4] at h
          refine lv_iconst (v := 1) hx hb dX7_isSign_30 (by decide) ?_
          refine lv_goto (tgt := 35) hx hb dX7_isSign_31 (by decide) ?_
          exact zrzc Z hr hlk (Or.inr rfl) h dX7_isSign_35
        · rw [if_neg c4] at h
          refine lv_iload_n hx hb dX7_isSign_24 rfl (lv_at hl 0 rfl) ?_
          refine lv_bipush (v := 59) hx hb dX7_isSign_25 (by decide) ?_
          refine lv_icmp_ne (tgt := 34) hx hb dX7_isSign_27 (by decide) (fun c5 => ?_) (fun c5 => ?_)
          · rw [if_neg c5] at h
            refine lv_iconst (v := 0) hx hb dX7_isSign_34 (by decide) ?_
            exact zrzc Z hr hlk (Or.inl rfl) h dX7_isSign_35
          · rw [if_pos c5] at h
            refine lv_iconst (v := 1) hx hb dX7_isSign_30 (by decide) ?_
            refine lv_goto (tgt := 35) hx hb dX7_isSign_31 (by decide) ?_
            exact zrzc Z hr hlk (Or.inr rfl) h dX7_isSign_35
def m_X12_in (x0 : Int32) (x1 : Int32) (x2 : Int32) : Option (Int32) :=
  if x0 < x1 then (some 0) else (if x2 < x0 then (some 0) else (some 1))
set_option maxHeartbeats 4000000 in
set_option maxRecDepth 100000 in
theorem c_X12_in {l : Launch} {D : va_G} {cy : Nat → ClassId} {ad : Nat → Nat} {σ τ : Sx} (hI : gInj ad) {R : Room} (hRf : 0 ≤ R.frames) (hRl : 0 ≤ R.locals) {x0 : Int32} {x1 : Int32} {x2 : Int32} {out : Int32} (h : m_X12_in x0 x1 x2 = some out) : Met l yX12_in [Cond.code yX12_in cX12_in 3 (some .boolean)] R (va_Pc [.int x0, .int x1, .int x2] (gB D cy ad σ τ)) (rQi out) 0 0 noA := by
  refine zstart [.int x0, .int x1, .int x2] (by decide) rfl hI (Nat.le_of_ble_eq_true rfl) ?_
  intro p e s m below meth c Z hr hlk hP ls hl
  have hx := Z.x
  have hb := Z.b
  generalize hargs : ([.int x0, .int x1, .int x2] : List Value).toArray = args
  have hl : lv_has ls 3 [(0, .int x0), (1, .int x1), (2, .int x2)] := hl
  unfold m_X12_in at h
  refine lv_iload_n hx hb dX12_in_0 rfl (lv_at hl 0 rfl) ?_
  refine lv_iload_n hx hb dX12_in_1 rfl (lv_at hl 1 rfl) ?_
  refine lv_icmp_lt (tgt := 14) hx hb dX12_in_2 (by decide) (fun c1 => ?_) (fun c1 => ?_)
  · rw [if_pos c1] at h
    refine lv_iconst (v := 0) hx hb dX12_in_14 (by decide) ?_
    exact zrzc Z hr hlk (Or.inl rfl) h dX12_in_15
  · rw [if_neg c1] at h
    refine lv_iload_n hx hb dX12_in_5 rfl (lv_at hl 0 rfl) ?_
    refine lv_iload_n hx hb dX12_in_6 rfl (lv_at hl 2 rfl) ?_
    refine lv_icmp_gt (tgt := 14) hx hb dX12_in_7 (by decide) (fun c2 => ?_) (fun c2 => ?_)
    · rw [if_pos c2] at h
      refine lv_iconst (v := 0) hx hb dX12_in_14 (by decide) ?_
      exact zrzc Z hr hlk (Or.inl rfl) h dX12_in_15
    · rw [if_neg c2] at h
      refine lv_iconst (v := 1) hx hb dX12_in_10 (by decide) ?_
      refine lv_goto (tgt := 15) hx hb dX12_in_11 (by decide) ?_
      exact zrzc Z hr hlk (Or.inr rfl) h dX12_in_15
def m_X12_ones_L4  : Nat → Int32 → Int32 → Int32 → Option (Int32)
  | 0, _, _, _ => none
  | n + 1, x0, x1, x2 =>
  if 5 ≤ x2 then (some x1) else (m_X12_ones_L4 n x0 ((x1 + ((x0 >>> (x2 &&& 31)) &&& 1))) ((x2 + 1)))
def m_X12_ones (x0 : Int32) : Option (Int32) :=
  (m_X12_ones_L4 FU x0 0 0).bind (fun y2 => some y2)
set_option maxHeartbeats 4000000 in
set_option maxRecDepth 100000 in
theorem w_X12_ones_L4 {l : Launch} {D : va_G} {cy : Nat → ClassId} {ad : Nat → Nat} {σ τ : Sx} {p : Program} {e : Env} {R : Room} {s : State} {m : MethodId} {args : Array Value} {below : List Frame} {meth : Method} {c : Code} (Z : Zc p s m c cX12_ones 3 RX12 D cy ad) (hP : va_P D vwCl (gW cy ad σ τ) s.heap) (hr : meth.sig.returnType = (some .int)) (hlk : meth.locks = false) (hRf : 0 ≤ R.frames) (hRl : 0 ≤ R.locals) (out : Int32) : ∀ (n : Nat) (x0 : Int32) (x1 : Int32) (x2 : Int32) (res : Int32), m_X12_ones_L4 n x0 x1 x2 = some res → ∀ ls : Array Slot, lv_has ls 3 [(0, .int x0), (1, .int x1), (2, .int x2)] → (∀ ls : Array Slot, lv_has ls 3 [(1, .int res)] → W p l e R s m args below meth c s.heap [] 0 0 (MQ below (rQi out) args s 0 0 noA) (F0 m 23 ls [])) → W p l e R s m args below meth c s.heap [] 0 0 (MQ below (rQi out) args s 0 0 noA) (F0 m 4 ls []) := by
  have hx := Z.x
  have hb := Z.b
  intro n
  induction n with
  | zero => intro x0 x1 x2 res h; cases h
  | succ n ih =>
    intro x0 x1 x2 res h ls hl kx
    rw [m_X12_ones_L4] at h
    refine lv_iload_n hx hb dX12_ones_4 rfl (lv_at hl 2 rfl) ?_
    refine lv_iconst (v := 5) hx hb dX12_ones_5 (by decide) ?_
    refine lv_icmp_ge (tgt := 23) hx hb dX12_ones_6 (by decide) (fun c1 => ?_) (fun c1 => ?_)
    · rw [if_pos c1] at h
      obtain rfl := Option.some.inj h
      exact kx _ (lv_sub hl [1] rfl)
    · rw [if_neg c1] at h
      refine lv_iload_n hx hb dX12_ones_9 rfl (lv_at hl 1 rfl) ?_
      refine lv_iload_n hx hb dX12_ones_10 rfl (lv_at hl 0 rfl) ?_
      refine lv_iload_n hx hb dX12_ones_11 rfl (lv_at hl 2 rfl) ?_
      refine lv_ishr hx hb dX12_ones_12 ?_
      refine lv_iconst (v := 1) hx hb dX12_ones_13 (by decide) ?_
      refine lv_iand hx hb dX12_ones_14 ?_
      refine lv_iadd hx hb dX12_ones_15 ?_
      refine lv_istore_n (lv' := [(1, .int (x1 + ((x0 >>> (x2 &&& 31)) &&& 1))), (0, .int x0), (2, .int x2)]) hx hb dX12_ones_16 rfl hl (by decide) rfl (fun ls hl => ?_)
      refine lv_iinc (v := (x2 + 1)) (lv' := [(2, .int (x2 + 1)), (1, .int (x1 + ((x0 >>> (x2 &&& 31)) &&& 1))), (0, .int x0)]) hx hb dX12_ones_17 hl (k := 2) rfl rfl (by decide) rfl (fun ls hl => ?_)
      refine lv_goto (tgt := 4) hx hb dX12_ones_20 (by decide) ?_
      exact ih x0 ((x1 + ((x0 >>> (x2 &&& 31)) &&& 1))) ((x2 + 1)) _ h _ (lv_sub hl [2, 1, 0] rfl) kx
set_option maxHeartbeats 4000000 in
set_option maxRecDepth 100000 in
theorem c_X12_ones {l : Launch} {D : va_G} {cy : Nat → ClassId} {ad : Nat → Nat} {σ τ : Sx} (hI : gInj ad) {R : Room} (hRf : 0 ≤ R.frames) (hRl : 0 ≤ R.locals) {x0 : Int32} {out : Int32} (h : m_X12_ones x0 = some out) : Met l yX12_ones [Cond.code yX12_ones cX12_ones 3 (some .int)] R (va_Pc [.int x0] (gB D cy ad σ τ)) (rQi out) 0 0 noA := by
  refine zstart [.int x0] (by decide) rfl hI (Nat.le_of_ble_eq_true rfl) ?_
  intro p e s m below meth c Z hr hlk hP ls hl
  have hx := Z.x
  have hb := Z.b
  generalize hargs : ([.int x0] : List Value).toArray = args
  have hl : lv_has ls 3 [(0, .int x0)] := hl
  unfold m_X12_ones at h
  refine lv_iconst (v := 0) hx hb dX12_ones_0 (by decide) ?_
  refine lv_istore_n (lv' := [(1, .int 0), (0, .int x0)]) hx hb dX12_ones_1 rfl hl (by decide) rfl (fun ls hl => ?_)
  refine lv_iconst (v := 0) hx hb dX12_ones_2 (by decide) ?_
  refine lv_istore_n (lv' := [(2, .int 0), (1, .int 0), (0, .int x0)]) hx hb dX12_ones_3 rfl hl (by decide) rfl (fun ls hl => ?_)
  obtain ⟨y2, hy2, h⟩ := bd h
  refine w_X12_ones_L4 Z hP hr hlk hRf hRl out FU x0 0 0 y2 hy2 _ (lv_sub hl [2, 1, 0] rfl) (fun ls hl => ?_)
  refine lv_iload_n hx hb dX12_ones_23 rfl (lv_at hl 0 rfl) ?_
  exact zri Z hr hlk h dX12_ones_24
def m_X12_filled_J27 (s0 : Int32) (s1 : Int32) : Option (Int32) :=
  if (s1 + s0) ≤ 100 then (some ((s1 + s0))) else (some 100)
def m_X12_filled_J14 (x0 : Int32) (x1 : Int32) (s0 : Int32) : Option (Int32) :=
  if 80 ≤ x0 then (m_X12_filled_J27 s0 x0) else (m_X12_filled_J27 x1 x0)
def m_X12_filled (x0 : Int32) (x1 : Int32) : Option (Int32) :=
  (dvI x1 2).bind (fun v1 => if 1 ≤ v1 then ((dvI x1 2).bind (fun v3 => m_X12_filled_J14 x0 x1 v3)) else (m_X12_filled_J14 x0 x1 1))
set_option maxHeartbeats 4000000 in
set_option maxRecDepth 100000 in
theorem c_X12_filled {l : Launch} {D : va_G} {cy : Nat → ClassId} {ad : Nat → Nat} {σ τ : Sx} (hI : gInj ad) {R : Room} (hRf : 0 ≤ R.frames) (hRl : 0 ≤ R.locals) {x0 : Int32} {x1 : Int32} {out : Int32} (h : m_X12_filled x0 x1 = some out) : Met l yX12_filled [Cond.code yX12_filled cX12_filled 4 (some .int)] R (va_Pc [.int x0, .int x1] (gB D cy ad σ τ)) (rQi out) 0 0 noA := by
  refine zstart [.int x0, .int x1] (by decide) rfl hI (Nat.le_of_ble_eq_true rfl) ?_
  intro p e s m below meth c Z hr hlk hP ls hl
  have hx := Z.x
  have hb := Z.b
  generalize hargs : ([.int x0, .int x1] : List Value).toArray = args
  have hl : lv_has ls 4 [(0, .int x0), (1, .int x1)] := hl
  have J27 : ∀ (s0 : Int32) (s1 : Int32), m_X12_filled_J27 s0 s1 = some out → ∀ ls : Array Slot, lv_has ls 4 [] → W p l e R s m args below meth c s.heap [] 0 0 (MQ below (rQi out) args s 0 0 noA) (F0 m 27 ls [.int s0, .int s1]) := by
    intro s0 s1 h ls hl
    unfold m_X12_filled_J27 at h
    refine lv_iadd hx hb dX12_filled_27 ?_
    refine lv_istore_n (lv' := [(3, .int (s1 + s0))]) hx hb dX12_filled_28 rfl hl (by decide) rfl (fun ls hl => ?_)
    refine lv_iload_n hx hb dX12_filled_29 rfl (lv_at hl 0 rfl) ?_
    refine lv_bipush (v := 100) hx hb dX12_filled_30 (by decide) ?_
    refine lv_icmp_le (tgt := 40) hx hb dX12_filled_32 (by decide) (fun c5 => ?_) (fun c5 => ?_)
    · rw [if_pos c5] at h
      refine lv_iload_n hx hb dX12_filled_40 rfl (lv_at hl 0 rfl) ?_
      exact zri Z hr hlk h dX12_filled_41
    · rw [if_neg c5] at h
      refine lv_bipush (v := 100) hx hb dX12_filled_35 (by decide) ?_
      refine lv_goto (tgt := 41) hx hb dX12_filled_37 (by decide) ?_
      exact zri Z hr hlk h dX12_filled_41
  have J14 : ∀ (x0 : Int32) (x1 : Int32) (s0 : Int32), m_X12_filled_J14 x0 x1 s0 = some out → ∀ ls : Array Slot, lv_has ls 4 [(0, .int x0), (1, .int x1)] → W p l e R s m args below meth c s.heap [] 0 0 (MQ below (rQi out) args s 0 0 noA) (F0 m 14 ls [.int s0]) := by
    intro x0 x1 s0 h ls hl
    unfold m_X12_filled_J14 at h
    refine lv_istore_n (lv' := [(2, .int s0), (0, .int x0), (1, .int x1)]) hx hb dX12_filled_14 rfl hl (by decide) rfl (fun ls hl => ?_)
    refine lv_iload_n hx hb dX12_filled_15 rfl (lv_at hl 1 rfl) ?_
    refine lv_iload_n hx hb dX12_filled_16 rfl (lv_at hl 1 rfl) ?_
    refine lv_bipush (v := 80) hx hb dX12_filled_17 (by decide) ?_
    refine lv_icmp_ge (tgt := 26) hx hb dX12_filled_19 (by decide) (fun c4 => ?_) (fun c4 => ?_)
    · rw [if_pos c4] at h
      refine lv_iload_n hx hb dX12_filled_26 rfl (lv_at hl 0 rfl) ?_
      exact J27 s0 x0 h _ (lv_sub hl [] rfl)
    · rw [if_neg c4] at h
      refine lv_iload_n hx hb dX12_filled_22 rfl (lv_at hl 2 rfl) ?_
      refine lv_goto (tgt := 27) hx hb dX12_filled_23 (by decide) ?_
      exact J27 x1 x0 h _ (lv_sub hl [] rfl)
  unfold m_X12_filled at h
  refine lv_iload_n hx hb dX12_filled_0 rfl (lv_at hl 1 rfl) ?_
  refine lv_iconst (v := 2) hx hb dX12_filled_1 (by decide) ?_
  obtain ⟨v1, hv1, h⟩ := bd h
  refine zdiv Z hv1 dX12_filled_2 ?_
  refine lv_iconst (v := 1) hx hb dX12_filled_3 (by decide) ?_
  refine lv_icmp_ge (tgt := 11) hx hb dX12_filled_4 (by decide) (fun c2 => ?_) (fun c2 => ?_)
  · rw [if_pos c2] at h
    refine lv_iload_n hx hb dX12_filled_11 rfl (lv_at hl 1 rfl) ?_
    refine lv_iconst (v := 2) hx hb dX12_filled_12 (by decide) ?_
    obtain ⟨v3, hv3, h⟩ := bd h
    refine zdiv Z hv3 dX12_filled_13 ?_
    exact J14 x0 x1 v3 h _ (lv_sub hl [0, 1] rfl)
  · rw [if_neg c2] at h
    refine lv_iconst (v := 1) hx hb dX12_filled_7 (by decide) ?_
    refine lv_goto (tgt := 14) hx hb dX12_filled_8 (by decide) ?_
    exact J14 x0 x1 1 h _ (lv_sub hl [0, 1] rfl)
def m_X12_lower (x0 : Int32) (x1 : Int32) : Option (Int32) :=
  if x1 ≤ x0 then (some ((x0 - x1))) else (some 0)
set_option maxHeartbeats 4000000 in
set_option maxRecDepth 100000 in
theorem c_X12_lower {l : Launch} {D : va_G} {cy : Nat → ClassId} {ad : Nat → Nat} {σ τ : Sx} (hI : gInj ad) {R : Room} (hRf : 0 ≤ R.frames) (hRl : 0 ≤ R.locals) {x0 : Int32} {x1 : Int32} {out : Int32} (h : m_X12_lower x0 x1 = some out) : Met l yX12_lower [Cond.code yX12_lower cX12_lower 2 (some .int)] R (va_Pc [.int x0, .int x1] (gB D cy ad σ τ)) (rQi out) 0 0 noA := by
  refine zstart [.int x0, .int x1] (by decide) rfl hI (Nat.le_of_ble_eq_true rfl) ?_
  intro p e s m below meth c Z hr hlk hP ls hl
  have hx := Z.x
  have hb := Z.b
  generalize hargs : ([.int x0, .int x1] : List Value).toArray = args
  have hl : lv_has ls 2 [(0, .int x0), (1, .int x1)] := hl
  unfold m_X12_lower at h
  refine lv_iload_n hx hb dX12_lower_0 rfl (lv_at hl 0 rfl) ?_
  refine lv_iload_n hx hb dX12_lower_1 rfl (lv_at hl 1 rfl) ?_
  refine lv_icmp_ge (tgt := 9) hx hb dX12_lower_2 (by decide) (fun c1 => ?_) (fun c1 => ?_)
  · rw [if_pos c1] at h
    refine lv_iload_n hx hb dX12_lower_9 rfl (lv_at hl 0 rfl) ?_
    refine lv_iload_n hx hb dX12_lower_10 rfl (lv_at hl 1 rfl) ?_
    refine lv_isub hx hb dX12_lower_11 ?_
    exact zri Z hr hlk h dX12_lower_12
  · rw [if_neg c1] at h
    refine lv_iconst (v := 0) hx hb dX12_lower_5 (by decide) ?_
    refine lv_goto (tgt := 12) hx hb dX12_lower_6 (by decide) ?_
    exact zri Z hr hlk h dX12_lower_12
def m_X10_canBeOn (σ : Sx) (x1 : Int32) : Option (Int32) :=
  if x1 < 0 then (some 0) else (if ((1 : Int32) <<< ((σ.1 0) &&& 31)) ≤ x1 then (some 0) else ((m_J6_bitCount_0f7a4 x1).bind (fun v3 => if (σ.1 1) < v3 then (some 0) else (some 1))))
set_option maxHeartbeats 4000000 in
set_option maxRecDepth 100000 in
theorem c_X10_canBeOn {l : Launch} {D : va_G} {cy : Nat → ClassId} {ad : Nat → Nat} {σ τ : Sx} (hI : gInj ad) {R : Room} (hRf : 1 ≤ R.frames) (hRl : 20 ≤ R.locals) {x1 : Int32} {out : Int32} (h : m_X10_canBeOn σ x1 = some out) : Met l yX10_canBeOn [Cond.code yX10_canBeOn cX10_canBeOn 2 (some .boolean)] R (va_Pc [.ref (ad 1), .int x1] (gB D cy ad σ τ)) (rQi out) 0 0 noA := by
  refine zstart [.ref (ad 1), .int x1] (by decide) rfl hI (Nat.le_of_ble_eq_true rfl) ?_
  intro p e s m below meth c Z hr hlk hP ls hl
  have hx := Z.x
  have hb := Z.b
  generalize hargs : ([.ref (ad 1), .int x1] : List Value).toArray = args
  have hl : lv_has ls 2 [(0, .ref (ad 1)), (1, .int x1)] := hl
  unfold m_X10_canBeOn at h
  refine lv_iload_n hx hb dX10_canBeOn_0 rfl (lv_at hl 1 rfl) ?_
  refine lv_if_lt (tgt := 29) hx hb dX10_canBeOn_1 (by decide) (fun c1 => ?_) (fun c1 => ?_)
  · rw [if_pos c1] at h
    refine lv_iconst (v := 0) hx hb dX10_canBeOn_29 (by decide) ?_
    exact zrzc Z hr hlk (Or.inl rfl) h dX10_canBeOn_30
  · rw [if_neg c1] at h
    refine lv_iload_n hx hb dX10_canBeOn_4 rfl (lv_at hl 1 rfl) ?_
    refine lv_iconst (v := 1) hx hb dX10_canBeOn_5 (by decide) ?_
    refine lv_aload_n hx hb dX10_canBeOn_6 rfl (lv_at hl 0 rfl) ?_
    refine fg_1_0 Z hP wF_X10_9 dX10_canBeOn_7 ?_
    refine lv_ishl hx hb dX10_canBeOn_10 ?_
    refine lv_icmp_ge (tgt := 29) hx hb dX10_canBeOn_11 (by decide) (fun c2 => ?_) (fun c2 => ?_)
    · rw [if_pos c2] at h
      refine lv_iconst (v := 0) hx hb dX10_canBeOn_29 (by decide) ?_
      exact zrzc Z hr hlk (Or.inl rfl) h dX10_canBeOn_30
    · rw [if_neg c2] at h
      refine lv_iload_n hx hb dX10_canBeOn_14 rfl (lv_at hl 1 rfl) ?_
      obtain ⟨v3, hv3, h⟩ := bd h
      refine zqi (zrunS Z hP (As := [.int x1]) (rest := []) (c_J6_bitCount_0f7a4 Z.i (R := { frames := 0, cells := 0, slots := 0, locals := 0 }) (Nat.le_refl _) (Nat.le_refl _) hv3) cV_X10_55 rfl rfl ⟨(Nat.le_trans (Nat.le_of_ble_eq_true rfl) hRf), (Nat.le_trans (Nat.le_of_ble_eq_true rfl) hRl)⟩ rfl hl.1 rfl (Nat.le_of_ble_eq_true rfl) dX10_canBeOn_15 ⟨Nat.zero_le _, Nat.zero_le _⟩) ?_
      refine lv_aload_n hx hb dX10_canBeOn_18 rfl (lv_at hl 0 rfl) ?_
      refine fg_1_1 Z hP wF_X10_15 dX10_canBeOn_19 ?_
      refine lv_icmp_gt (tgt := 29) hx hb dX10_canBeOn_22 (by decide) (fun c4 => ?_) (fun c4 => ?_)
      · rw [if_pos c4] at h
        refine lv_iconst (v := 0) hx hb dX10_canBeOn_29 (by decide) ?_
        exact zrzc Z hr hlk (Or.inl rfl) h dX10_canBeOn_30
      · rw [if_neg c4] at h
        refine lv_iconst (v := 1) hx hb dX10_canBeOn_25 (by decide) ?_
        refine lv_goto (tgt := 30) hx hb dX10_canBeOn_26 (by decide) ?_
        exact zrzc Z hr hlk (Or.inr rfl) h dX10_canBeOn_30
def m_X10_isDark_L2 (σ : Sx) : Nat → Int32 → Int32 → Option (Sum (Int32) (Unit))
  | 0, _, _ => none
  | n + 1, x1, x2 =>
  if (σ.1 3) ≤ x2 then (some (.inr (()))) else ((ldA cLn σ 6 x2).bind (fun v2 => if x1 < v2 then (m_X10_isDark_L2 σ n x1 ((x2 + 1))) else ((ldA cLn σ 7 x2).bind (fun v4 => if v4 < x1 then (m_X10_isDark_L2 σ n x1 ((x2 + 1))) else (some (.inl 1))))))
def m_X10_isDark (σ : Sx) (x1 : Int32) : Option (Int32) :=
  (m_X10_isDark_L2 σ FU x1 0).bind (fun rs8 => Sum.elim (fun r7 => some r7) (fun y6 => some 0) rs8)
set_option maxHeartbeats 4000000 in
set_option maxRecDepth 100000 in
theorem w_X10_isDark_L2 {l : Launch} {D : va_G} {cy : Nat → ClassId} {ad : Nat → Nat} {σ τ : Sx} {p : Program} {e : Env} {R : Room} {s : State} {m : MethodId} {args : Array Value} {below : List Frame} {meth : Method} {c : Code} (Z : Zc p s m c cX10_isDark 3 RX10 D cy ad) (hP : va_P D vwCl (gW cy ad σ τ) s.heap) (hr : meth.sig.returnType = (some .boolean)) (hlk : meth.locks = false) (hRf : 0 ≤ R.frames) (hRl : 0 ≤ R.locals) (out : Int32) : ∀ (n : Nat) (x1 : Int32) (x2 : Int32) (res : Sum (Int32) (Unit)), m_X10_isDark_L2 σ n x1 x2 = some res → ∀ ls : Array Slot, lv_has ls 3 [(0, .ref (ad 1)), (1, .int x1), (2, .int x2)] → (∀ r : Int32, res = .inl r → r = out) → (∀ y : Unit, res = .inr y → ∀ ls : Array Slot, lv_has ls 3 [] → W p l e R s m args below meth c s.heap [] 0 0 (MQ below (rQi out) args s 0 0 noA) (F0 m 38 ls [])) → W p l e R s m args below meth c s.heap [] 0 0 (MQ below (rQi out) args s 0 0 noA) (F0 m 2 ls []) := by
  have hx := Z.x
  have hb := Z.b
  intro n
  induction n with
  | zero => intro x1 x2 res h; cases h
  | succ n ih =>
    intro x1 x2 res h ls hl hri kx
    rw [m_X10_isDark_L2] at h
    refine lv_iload_n hx hb dX10_isDark_2 rfl (lv_at hl 2 rfl) ?_
    refine lv_aload_n hx hb dX10_isDark_3 rfl (lv_at hl 0 rfl) ?_
    refine fg_1_3 Z hP wF_X10_21 dX10_isDark_4 ?_
    refine lv_icmp_ge (tgt := 38) hx hb dX10_isDark_7 (by decide) (fun c1 => ?_) (fun c1 => ?_)
    · rw [if_pos c1] at h
      exact kx _ (Option.some.inj h).symm _ (lv_sub hl [] rfl)
    · rw [if_neg c1] at h
      refine lv_iload_n hx hb dX10_isDark_10 rfl (lv_at hl 1 rfl) ?_
      refine lv_aload_n hx hb dX10_isDark_11 rfl (lv_at hl 0 rfl) ?_
      refine fg_1_10 Z hP wF_X10_43 dX10_isDark_12 ?_
      refine lv_iload_n hx hb dX10_isDark_15 rfl (lv_at hl 2 rfl) ?_
      obtain ⟨v2, hv2, h⟩ := bd h
      refine zc_ld (j := 6) Z hP hv2 dX10_isDark_16 ?_
      refine lv_icmp_lt (tgt := 32) hx hb dX10_isDark_17 (by decide) (fun c3 => ?_) (fun c3 => ?_)
      · rw [if_pos c3] at h
        refine lv_iinc (v := (x2 + 1)) (lv' := [(2, .int (x2 + 1)), (0, .ref (ad 1)), (1, .int x1)]) hx hb dX10_isDark_32 hl (k := 2) rfl rfl (by decide) rfl (fun ls hl => ?_)
        refine lv_goto (tgt := 2) hx hb dX10_isDark_35 (by decide) ?_
        exact ih x1 ((x2 + 1)) _ h _ (lv_sub hl [1, 2, 0] rfl) hri kx
      · rw [if_neg c3] at h
        refine lv_iload_n hx hb dX10_isDark_20 rfl (lv_at hl 1 rfl) ?_
        refine lv_aload_n hx hb dX10_isDark_21 rfl (lv_at hl 0 rfl) ?_
        refine fg_1_11 Z hP wF_X10_46 dX10_isDark_22 ?_
        refine lv_iload_n hx hb dX10_isDark_25 rfl (lv_at hl 2 rfl) ?_
        obtain ⟨v4, hv4, h⟩ := bd h
        refine zc_ld (j := 7) Z hP hv4 dX10_isDark_26 ?_
        refine lv_icmp_gt (tgt := 32) hx hb dX10_isDark_27 (by decide) (fun c5 => ?_) (fun c5 => ?_)
        · rw [if_pos c5] at h
          refine lv_iinc (v := (x2 + 1)) (lv' := [(2, .int (x2 + 1)), (0, .ref (ad 1)), (1, .int x1)]) hx hb dX10_isDark_32 hl (k := 2) rfl rfl (by decide) rfl (fun ls hl => ?_)
          refine lv_goto (tgt := 2) hx hb dX10_isDark_35 (by decide) ?_
          exact ih x1 ((x2 + 1)) _ h _ (lv_sub hl [1, 2, 0] rfl) hri kx
        · rw [if_neg c5] at h
          refine lv_iconst (v := 1) hx hb dX10_isDark_30 (by decide) ?_
          exact zrzc Z hr hlk (Or.inr rfl) (congrArg some (hri _ (Option.some.inj h).symm)) dX10_isDark_31
set_option maxHeartbeats 4000000 in
set_option maxRecDepth 100000 in
theorem c_X10_isDark {l : Launch} {D : va_G} {cy : Nat → ClassId} {ad : Nat → Nat} {σ τ : Sx} (hI : gInj ad) {R : Room} (hRf : 0 ≤ R.frames) (hRl : 0 ≤ R.locals) {x1 : Int32} {out : Int32} (h : m_X10_isDark σ x1 = some out) : Met l yX10_isDark [Cond.code yX10_isDark cX10_isDark 3 (some .boolean)] R (va_Pc [.ref (ad 1), .int x1] (gB D cy ad σ τ)) (rQi out) 0 0 noA := by
  refine zstart [.ref (ad 1), .int x1] (by decide) rfl hI (Nat.le_of_ble_eq_true rfl) ?_
  intro p e s m below meth c Z hr hlk hP ls hl
  have hx := Z.x
  have hb := Z.b
  generalize hargs : ([.ref (ad 1), .int x1] : List Value).toArray = args
  have hl : lv_has ls 3 [(0, .ref (ad 1)), (1, .int x1)] := hl
  unfold m_X10_isDark at h
  refine lv_iconst (v := 0) hx hb dX10_isDark_0 (by decide) ?_
  refine lv_istore_n (lv' := [(2, .int 0), (0, .ref (ad 1)), (1, .int x1)]) hx hb dX10_isDark_1 rfl hl (by decide) rfl (fun ls hl => ?_)
  obtain ⟨rs8, hrs8, h⟩ := bd h
  refine w_X10_isDark_L2 Z hP hr hlk hRf hRl out FU x1 0 rs8 hrs8 _ (lv_sub hl [1, 2, 0] rfl) (fun r7 e1 => ?_) (fun y6 e1 ls hl => ?_)
  · subst e1
    rw [Sum.elim_inl] at h
    exact (Option.some.inj h)
  · subst e1
    rw [Sum.elim_inr] at h
    refine lv_iconst (v := 0) hx hb dX10_isDark_38 (by decide) ?_
    exact zrzc Z hr hlk (Or.inl rfl) h dX10_isDark_39
def m_X10_isCallOf (σ : Sx) (x1 : Int32) (x2 : Int32) (x3 : Int32) : Option (Int32) :=
  (ldA cLn σ 3 x1).bind (fun v1 => if v1 = x2 then ((ldA cLn σ 4 x1).bind (fun v3 => if v3 = x3 then (some 1) else (some 0))) else (some 0))
set_option maxHeartbeats 4000000 in
set_option maxRecDepth 100000 in
theorem c_X10_isCallOf {l : Launch} {D : va_G} {cy : Nat → ClassId} {ad : Nat → Nat} {σ τ : Sx} (hI : gInj ad) {R : Room} (hRf : 0 ≤ R.frames) (hRl : 0 ≤ R.locals) {x1 : Int32} {x2 : Int32} {x3 : Int32} {out : Int32} (h : m_X10_isCallOf σ x1 x2 x3 = some out) : Met l yX10_isCallOf [Cond.code yX10_isCallOf cX10_isCallOf 4 (some .boolean)] R (va_Pc [.ref (ad 1), .int x1, .int x2, .int x3] (gB D cy ad σ τ)) (rQi out) 0 0 noA := by
  refine zstart [.ref (ad 1), .int x1, .int x2, .int x3] (by decide) rfl hI (Nat.le_of_ble_eq_true rfl) ?_
  intro p e s m below meth c Z hr hlk hP ls hl
  have hx := Z.x
  have hb := Z.b
  generalize hargs : ([.ref (ad 1), .int x1, .int x2, .int x3] : List Value).toArray = args
  have hl : lv_has ls 4 [(0, .ref (ad 1)), (1, .int x1), (2, .int x2), (3, .int x3)] := hl
  unfold m_X10_isCallOf at h
  refine lv_aload_n hx hb dX10_isCallOf_0 rfl (lv_at hl 0 rfl) ?_
  refine fg_1_7 Z hP wF_X10_34 dX10_isCallOf_1 ?_
  refine lv_iload_n hx hb dX10_isCallOf_4 rfl (lv_at hl 1 rfl) ?_
  obtain ⟨v1, hv1, h⟩ := bd h
  refine zc_ld (j := 3) Z hP hv1 dX10_isCallOf_5 ?_
  refine lv_iload_n hx hb dX10_isCallOf_6 rfl (lv_at hl 2 rfl) ?_
  refine lv_icmp_ne (tgt := 24) hx hb dX10_isCallOf_7 (by decide) (fun c2 => ?_) (fun c2 => ?_)
  · rw [if_neg c2] at h
    refine lv_iconst (v := 0) hx hb dX10_isCallOf_24 (by decide) ?_
    exact zrzc Z hr hlk (Or.inl rfl) h dX10_isCallOf_25
  · rw [if_pos c2] at h
    refine lv_aload_n hx hb dX10_isCallOf_10 rfl (lv_at hl 0 rfl) ?_
    refine fg_1_8 Z hP wF_X10_37 dX10_isCallOf_11 ?_
    refine lv_iload_n hx hb dX10_isCallOf_14 rfl (lv_at hl 1 rfl) ?_
    obtain ⟨v3, hv3, h⟩ := bd h
    refine zc_ld (j := 4) Z hP hv3 dX10_isCallOf_15 ?_
    refine lv_iload_n hx hb dX10_isCallOf_16 rfl (lv_at hl 3 rfl) ?_
    refine lv_icmp_ne (tgt := 24) hx hb dX10_isCallOf_17 (by decide) (fun c4 => ?_) (fun c4 => ?_)
    · rw [if_neg c4] at h
      refine lv_iconst (v := 0) hx hb dX10_isCallOf_24 (by decide) ?_
      exact zrzc Z hr hlk (Or.inl rfl) h dX10_isCallOf_25
    · rw [if_pos c4] at h
      refine lv_iconst (v := 1) hx hb dX10_isCallOf_20 (by decide) ?_
      refine lv_goto (tgt := 25) hx hb dX10_isCallOf_21 (by decide) ?_
      exact zrzc Z hr hlk (Or.inr rfl) h dX10_isCallOf_25
def m_X10_callsOf_L4 (σ : Sx) : Nat → Int32 → Int32 → Int32 → Option (Int32)
  | 0, _, _, _ => none
  | n + 1, x1, x2, x3 =>
  if (σ.1 2) ≤ x3 then (some x2) else ((ldA cLn σ 3 x3).bind (fun v2 => if v2 = x1 then (m_X10_callsOf_L4 σ n x1 ((x2 + 1)) ((x3 + 1))) else (m_X10_callsOf_L4 σ n x1 x2 ((x3 + 1)))))
def m_X10_callsOf (σ : Sx) (x1 : Int32) : Option (Int32) :=
  (m_X10_callsOf_L4 σ FU x1 0 0).bind (fun y4 => some y4)
set_option maxHeartbeats 4000000 in
set_option maxRecDepth 100000 in
theorem w_X10_callsOf_L4 {l : Launch} {D : va_G} {cy : Nat → ClassId} {ad : Nat → Nat} {σ τ : Sx} {p : Program} {e : Env} {R : Room} {s : State} {m : MethodId} {args : Array Value} {below : List Frame} {meth : Method} {c : Code} (Z : Zc p s m c cX10_callsOf 4 RX10 D cy ad) (hP : va_P D vwCl (gW cy ad σ τ) s.heap) (hr : meth.sig.returnType = (some .int)) (hlk : meth.locks = false) (hRf : 0 ≤ R.frames) (hRl : 0 ≤ R.locals) (out : Int32) : ∀ (n : Nat) (x1 : Int32) (x2 : Int32) (x3 : Int32) (res : Int32), m_X10_callsOf_L4 σ n x1 x2 x3 = some res → ∀ ls : Array Slot, lv_has ls 4 [(0, .ref (ad 1)), (1, .int x1), (2, .int x2), (3, .int x3)] → (∀ ls : Array Slot, lv_has ls 4 [(2, .int res)] → W p l e R s m args below meth c s.heap [] 0 0 (MQ below (rQi out) args s 0 0 noA) (F0 m 31 ls [])) → W p l e R s m args below meth c s.heap [] 0 0 (MQ below (rQi out) args s 0 0 noA) (F0 m 4 ls []) := by
  have hx := Z.x
  have hb := Z.b
  intro n
  induction n with
  | zero => intro x1 x2 x3 res h; cases h
  | succ n ih =>
    intro x1 x2 x3 res h ls hl kx
    rw [m_X10_callsOf_L4] at h
    refine lv_iload_n hx hb dX10_callsOf_4 rfl (lv_at hl 3 rfl) ?_
    refine lv_aload_n hx hb dX10_callsOf_5 rfl (lv_at hl 0 rfl) ?_
    refine fg_1_2 Z hP wF_X10_18 dX10_callsOf_6 ?_
    refine lv_icmp_ge (tgt := 31) hx hb dX10_callsOf_9 (by decide) (fun c1 => ?_) (fun c1 => ?_)
    · rw [if_pos c1] at h
      obtain rfl := Option.some.inj h
      exact kx _ (lv_sub hl [2] rfl)
    · rw [if_neg c1] at h
      refine lv_aload_n hx hb dX10_callsOf_12 rfl (lv_at hl 0 rfl) ?_
      refine fg_1_7 Z hP wF_X10_34 dX10_callsOf_13 ?_
      refine lv_iload_n hx hb dX10_callsOf_16 rfl (lv_at hl 3 rfl) ?_
      obtain ⟨v2, hv2, h⟩ := bd h
      refine zc_ld (j := 3) Z hP hv2 dX10_callsOf_17 ?_
      refine lv_iload_n hx hb dX10_callsOf_18 rfl (lv_at hl 1 rfl) ?_
      refine lv_icmp_ne (tgt := 25) hx hb dX10_callsOf_19 (by decide) (fun c3 => ?_) (fun c3 => ?_)
      · rw [if_neg c3] at h
        refine lv_iinc (v := (x3 + 1)) (lv' := [(3, .int (x3 + 1)), (0, .ref (ad 1)), (1, .int x1), (2, .int x2)]) hx hb dX10_callsOf_25 hl (k := 3) rfl rfl (by decide) rfl (fun ls hl => ?_)
        refine lv_goto (tgt := 4) hx hb dX10_callsOf_28 (by decide) ?_
        exact ih x1 x2 ((x3 + 1)) _ h _ (lv_sub hl [1, 2, 3, 0] rfl) kx
      · rw [if_pos c3] at h
        refine lv_iinc (v := (x2 + 1)) (lv' := [(2, .int (x2 + 1)), (0, .ref (ad 1)), (1, .int x1), (3, .int x3)]) hx hb dX10_callsOf_22 hl (k := 2) rfl rfl (by decide) rfl (fun ls hl => ?_)
        refine lv_iinc (v := (x3 + 1)) (lv' := [(3, .int (x3 + 1)), (2, .int (x2 + 1)), (0, .ref (ad 1)), (1, .int x1)]) hx hb dX10_callsOf_25 hl (k := 3) rfl rfl (by decide) rfl (fun ls hl => ?_)
        refine lv_goto (tgt := 4) hx hb dX10_callsOf_28 (by decide) ?_
        exact ih x1 ((x2 + 1)) ((x3 + 1)) _ h _ (lv_sub hl [2, 3, 1, 0] rfl) kx
set_option maxHeartbeats 4000000 in
set_option maxRecDepth 100000 in
theorem c_X10_callsOf {l : Launch} {D : va_G} {cy : Nat → ClassId} {ad : Nat → Nat} {σ τ : Sx} (hI : gInj ad) {R : Room} (hRf : 0 ≤ R.frames) (hRl : 0 ≤ R.locals) {x1 : Int32} {out : Int32} (h : m_X10_callsOf σ x1 = some out) : Met l yX10_callsOf [Cond.code yX10_callsOf cX10_callsOf 4 (some .int)] R (va_Pc [.ref (ad 1), .int x1] (gB D cy ad σ τ)) (rQi out) 0 0 noA := by
  refine zstart [.ref (ad 1), .int x1] (by decide) rfl hI (Nat.le_of_ble_eq_true rfl) ?_
  intro p e s m below meth c Z hr hlk hP ls hl
  have hx := Z.x
  have hb := Z.b
  generalize hargs : ([.ref (ad 1), .int x1] : List Value).toArray = args
  have hl : lv_has ls 4 [(0, .ref (ad 1)), (1, .int x1)] := hl
  unfold m_X10_callsOf at h
  refine lv_iconst (v := 0) hx hb dX10_callsOf_0 (by decide) ?_
  refine lv_istore_n (lv' := [(2, .int 0), (0, .ref (ad 1)), (1, .int x1)]) hx hb dX10_callsOf_1 rfl hl (by decide) rfl (fun ls hl => ?_)
  refine lv_iconst (v := 0) hx hb dX10_callsOf_2 (by decide) ?_
  refine lv_istore_n (lv' := [(3, .int 0), (2, .int 0), (0, .ref (ad 1)), (1, .int x1)]) hx hb dX10_callsOf_3 rfl hl (by decide) rfl (fun ls hl => ?_)
  obtain ⟨y4, hy4, h⟩ := bd h
  refine w_X10_callsOf_L4 Z hP hr hlk hRf hRl out FU x1 0 0 y4 hy4 _ (lv_sub hl [2, 3, 1, 0] rfl) (fun ls hl => ?_)
  refine lv_iload_n hx hb dX10_callsOf_31 rfl (lv_at hl 0 rfl) ?_
  exact zri Z hr hlk h dX10_callsOf_32
def m_X10_missedAt_L9 (σ : Sx) : Nat → Int32 → Int32 → Int32 → Int32 → Int32 → Option (Int32)
  | 0, _, _, _, _, _ => none
  | n + 1, x1, x2, x4, x5, x6 =>
  if (σ.1 2) ≤ x6 then (some x5) else ((m_X10_isCallOf σ x6 x2 x1).bind (fun v2 => if v2 = 0 then (m_X10_missedAt_L9 σ n x1 x2 x4 x5 ((x6 + 1))) else ((ldA cLn σ 5 x6).bind (fun v4 => if x4 < v4 then (m_X10_missedAt_L9 σ n x1 x2 x4 ((x5 + 1)) ((x6 + 1))) else ((ldA cLn σ 5 x6).bind (fun v6 => m_X10_missedAt_L9 σ n x1 x2 ((x4 - v6)) x5 ((x6 + 1))))))))
def m_X10_missedAt (σ : Sx) (x1 : Int32) (x2 : Int32) (x3 : Int32) : Option (Int32) :=
  (m_X10_missedAt_L9 σ FU x1 x2 x3 0 0).bind (fun y7 => some y7)
set_option maxHeartbeats 4000000 in
set_option maxRecDepth 100000 in
theorem w_X10_missedAt_L9 {l : Launch} {D : va_G} {cy : Nat → ClassId} {ad : Nat → Nat} {σ τ : Sx} {p : Program} {e : Env} {R : Room} {s : State} {m : MethodId} {args : Array Value} {below : List Frame} {meth : Method} {c : Code} (Z : Zc p s m c cX10_missedAt 7 RX10 D cy ad) (hP : va_P D vwCl (gW cy ad σ τ) s.heap) (hr : meth.sig.returnType = (some .int)) (hlk : meth.locks = false) (hRf : 1 ≤ R.frames) (hRl : 23 ≤ R.locals) (out : Int32) : ∀ (n : Nat) (x1 : Int32) (x2 : Int32) (x4 : Int32) (x5 : Int32) (x6 : Int32) (res : Int32), m_X10_missedAt_L9 σ n x1 x2 x4 x5 x6 = some res → ∀ ls : Array Slot, lv_has ls 7 [(0, .ref (ad 1)), (1, .int x1), (2, .int x2), (4, .int x4), (5, .int x5), (6, .int x6)] → (∀ ls : Array Slot, lv_has ls 7 [(5, .int res)] → W p l e R s m args below meth c s.heap [] 0 0 (MQ below (rQi out) args s 0 0 noA) (F0 m 65 ls [])) → W p l e R s m args below meth c s.heap [] 0 0 (MQ below (rQi out) args s 0 0 noA) (F0 m 9 ls []) := by
  have hx := Z.x
  have hb := Z.b
  intro n
  induction n with
  | zero => intro x1 x2 x4 x5 x6 res h; cases h
  | succ n ih =>
    intro x1 x2 x4 x5 x6 res h ls hl kx
    rw [m_X10_missedAt_L9] at h
    refine lv_iload hx hb dX10_missedAt_9 (lv_at hl 5 rfl) ?_
    refine lv_aload_n hx hb dX10_missedAt_11 rfl (lv_at hl 0 rfl) ?_
    refine fg_1_2 Z hP wF_X10_18 dX10_missedAt_12 ?_
    refine lv_icmp_ge (tgt := 65) hx hb dX10_missedAt_15 (by decide) (fun c1 => ?_) (fun c1 => ?_)
    · rw [if_pos c1] at h
      obtain rfl := Option.some.inj h
      exact kx _ (lv_sub hl [4] rfl)
    · rw [if_neg c1] at h
      refine lv_aload_n hx hb dX10_missedAt_18 rfl (lv_at hl 0 rfl) ?_
      refine lv_iload hx hb dX10_missedAt_19 (lv_at hl 5 rfl) ?_
      refine lv_iload_n hx hb dX10_missedAt_21 rfl (lv_at hl 2 rfl) ?_
      refine lv_iload_n hx hb dX10_missedAt_22 rfl (lv_at hl 1 rfl) ?_
      obtain ⟨v2, hv2, h⟩ := bd h
      refine zqi (zrunV Z hP (As := [.int x6, .int x2, .int x1]) (rest := []) (c_X10_isCallOf Z.i (R := { frames := 0, cells := 0, slots := 0, locals := 0 }) (Nat.le_refl _) (Nat.le_refl _) hv2) cV_X10_61 rfl rfl ⟨(Nat.le_trans (Nat.le_of_ble_eq_true rfl) hRf), (Nat.le_trans (Nat.le_of_ble_eq_true rfl) hRl)⟩ 1 (gW_o rfl) rfl rfl rfl hl.1 rfl (Nat.le_of_ble_eq_true rfl) dX10_missedAt_23 ⟨Nat.zero_le _, Nat.zero_le _⟩) ?_
      refine lv_if_eq (tgt := 59) hx hb dX10_missedAt_26 (by decide) (fun c3 => ?_) (fun c3 => ?_)
      · rw [if_pos c3] at h
        refine lv_iinc (v := (x6 + 1)) (lv' := [(6, .int (x6 + 1)), (0, .ref (ad 1)), (1, .int x1), (2, .int x2), (4, .int x4), (5, .int x5)]) hx hb dX10_missedAt_59 hl (k := 5) rfl rfl (by decide) rfl (fun ls hl => ?_)
        refine lv_goto (tgt := 9) hx hb dX10_missedAt_62 (by decide) ?_
        exact ih x1 x2 x4 x5 ((x6 + 1)) _ h _ (lv_sub hl [1, 2, 3, 4, 5, 0] rfl) kx
      · rw [if_neg c3] at h
        refine lv_iload hx hb dX10_missedAt_29 (lv_at hl 3 rfl) ?_
        refine lv_aload_n hx hb dX10_missedAt_31 rfl (lv_at hl 0 rfl) ?_
        refine fg_1_9 Z hP wF_X10_40 dX10_missedAt_32 ?_
        refine lv_iload hx hb dX10_missedAt_35 (lv_at hl 5 rfl) ?_
        obtain ⟨v4, hv4, h⟩ := bd h
        refine zc_ld (j := 5) Z hP hv4 dX10_missedAt_37 ?_
        refine lv_icmp_lt (tgt := 56) hx hb dX10_missedAt_38 (by decide) (fun c5 => ?_) (fun c5 => ?_)
        · rw [if_pos c5] at h
          refine lv_iinc (v := (x5 + 1)) (lv' := [(5, .int (x5 + 1)), (0, .ref (ad 1)), (1, .int x1), (2, .int x2), (4, .int x4), (6, .int x6)]) hx hb dX10_missedAt_56 hl (k := 4) rfl rfl (by decide) rfl (fun ls hl => ?_)
          refine lv_iinc (v := (x6 + 1)) (lv' := [(6, .int (x6 + 1)), (5, .int (x5 + 1)), (0, .ref (ad 1)), (1, .int x1), (2, .int x2), (4, .int x4)]) hx hb dX10_missedAt_59 hl (k := 5) rfl rfl (by decide) rfl (fun ls hl => ?_)
          refine lv_goto (tgt := 9) hx hb dX10_missedAt_62 (by decide) ?_
          exact ih x1 x2 x4 ((x5 + 1)) ((x6 + 1)) _ h _ (lv_sub hl [2, 3, 4, 5, 1, 0] rfl) kx
        · rw [if_neg c5] at h
          refine lv_iload hx hb dX10_missedAt_41 (lv_at hl 3 rfl) ?_
          refine lv_aload_n hx hb dX10_missedAt_43 rfl (lv_at hl 0 rfl) ?_
          refine fg_1_9 Z hP wF_X10_40 dX10_missedAt_44 ?_
          refine lv_iload hx hb dX10_missedAt_47 (lv_at hl 5 rfl) ?_
          obtain ⟨v6, hv6, h⟩ := bd h
          refine zc_ld (j := 5) Z hP hv6 dX10_missedAt_49 ?_
          refine lv_isub hx hb dX10_missedAt_50 ?_
          refine lv_istore (lv' := [(4, .int (x4 - v6)), (0, .ref (ad 1)), (1, .int x1), (2, .int x2), (5, .int x5), (6, .int x6)]) hx hb dX10_missedAt_51 hl (by decide) rfl (fun ls hl => ?_)
          refine lv_goto (tgt := 59) hx hb dX10_missedAt_53 (by decide) ?_
          refine lv_iinc (v := (x6 + 1)) (lv' := [(6, .int (x6 + 1)), (4, .int (x4 - v6)), (0, .ref (ad 1)), (1, .int x1), (2, .int x2), (5, .int x5)]) hx hb dX10_missedAt_59 hl (k := 5) rfl rfl (by decide) rfl (fun ls hl => ?_)
          refine lv_goto (tgt := 9) hx hb dX10_missedAt_62 (by decide) ?_
          exact ih x1 x2 ((x4 - v6)) x5 ((x6 + 1)) _ h _ (lv_sub hl [2, 3, 4, 1, 5, 0] rfl) kx
set_option maxHeartbeats 4000000 in
set_option maxRecDepth 100000 in
theorem c_X10_missedAt {l : Launch} {D : va_G} {cy : Nat → ClassId} {ad : Nat → Nat} {σ τ : Sx} (hI : gInj ad) {R : Room} (hRf : 1 ≤ R.frames) (hRl : 23 ≤ R.locals) {x1 : Int32} {x2 : Int32} {x3 : Int32} {out : Int32} (h : m_X10_missedAt σ x1 x2 x3 = some out) : Met l yX10_missedAt [Cond.code yX10_missedAt cX10_missedAt 7 (some .int)] R (va_Pc [.ref (ad 1), .int x1, .int x2, .int x3] (gB D cy ad σ τ)) (rQi out) 0 0 noA := by
  refine zstart [.ref (ad 1), .int x1, .int x2, .int x3] (by decide) rfl hI (Nat.le_of_ble_eq_true rfl) ?_
  intro p e s m below meth c Z hr hlk hP ls hl
  have hx := Z.x
  have hb := Z.b
  generalize hargs : ([.ref (ad 1), .int x1, .int x2, .int x3] : List Value).toArray = args
  have hl : lv_has ls 7 [(0, .ref (ad 1)), (1, .int x1), (2, .int x2), (3, .int x3)] := hl
  unfold m_X10_missedAt at h
  refine lv_iload_n hx hb dX10_missedAt_0 rfl (lv_at hl 3 rfl) ?_
  refine lv_istore (lv' := [(4, .int x3), (0, .ref (ad 1)), (1, .int x1), (2, .int x2), (3, .int x3)]) hx hb dX10_missedAt_1 hl (by decide) rfl (fun ls hl => ?_)
  refine lv_iconst (v := 0) hx hb dX10_missedAt_3 (by decide) ?_
  refine lv_istore (lv' := [(5, .int 0), (4, .int x3), (0, .ref (ad 1)), (1, .int x1), (2, .int x2), (3, .int x3)]) hx hb dX10_missedAt_4 hl (by decide) rfl (fun ls hl => ?_)
  refine lv_iconst (v := 0) hx hb dX10_missedAt_6 (by decide) ?_
  refine lv_istore (lv' := [(6, .int 0), (5, .int 0), (4, .int x3), (0, .ref (ad 1)), (1, .int x1), (2, .int x2), (3, .int x3)]) hx hb dX10_missedAt_7 hl (by decide) rfl (fun ls hl => ?_)
  obtain ⟨y7, hy7, h⟩ := bd h
  refine w_X10_missedAt_L9 Z hP hr hlk hRf hRl out FU x1 x2 x3 0 0 y7 hy7 _ (lv_sub hl [3, 4, 5, 2, 1, 0] rfl) (fun ls hl => ?_)
  refine lv_iload hx hb dX10_missedAt_65 (lv_at hl 0 rfl) ?_
  exact zri Z hr hlk h dX10_missedAt_67
def m_X10_leftByCalls_L6 (σ : Sx) : Nat → Int32 → Int32 → Int32 → Int32 → Option (Int32)
  | 0, _, _, _, _ => none
  | n + 1, x1, x2, x4, x5 =>
  if (σ.1 2) ≤ x5 then (some x4) else ((m_X10_isCallOf σ x5 x2 x1).bind (fun v2 => if v2 = 0 then (m_X10_leftByCalls_L6 σ n x1 x2 x4 ((x5 + 1))) else ((ldA cLn σ 5 x5).bind (fun v4 => if x4 < v4 then (m_X10_leftByCalls_L6 σ n x1 x2 x4 ((x5 + 1))) else ((ldA cLn σ 5 x5).bind (fun v6 => m_X10_leftByCalls_L6 σ n x1 x2 ((x4 - v6)) ((x5 + 1))))))))
def m_X10_leftByCalls (σ : Sx) (x1 : Int32) (x2 : Int32) (x3 : Int32) : Option (Int32) :=
  (m_X10_leftByCalls_L6 σ FU x1 x2 x3 0).bind (fun y7 => some y7)
set_option maxHeartbeats 4000000 in
set_option maxRecDepth 100000 in
theorem w_X10_leftByCalls_L6 {l : Launch} {D : va_G} {cy : Nat → ClassId} {ad : Nat → Nat} {σ τ : Sx} {p : Program} {e : Env} {R : Room} {s : State} {m : MethodId} {args : Array Value} {below : List Frame} {meth : Method} {c : Code} (Z : Zc p s m c cX10_leftByCalls 6 RX10 D cy ad) (hP : va_P D vwCl (gW cy ad σ τ) s.heap) (hr : meth.sig.returnType = (some .int)) (hlk : meth.locks = false) (hRf : 1 ≤ R.frames) (hRl : 23 ≤ R.locals) (out : Int32) : ∀ (n : Nat) (x1 : Int32) (x2 : Int32) (x4 : Int32) (x5 : Int32) (res : Int32), m_X10_leftByCalls_L6 σ n x1 x2 x4 x5 = some res → ∀ ls : Array Slot, lv_has ls 6 [(0, .ref (ad 1)), (1, .int x1), (2, .int x2), (4, .int x4), (5, .int x5)] → (∀ ls : Array Slot, lv_has ls 6 [(4, .int res)] → W p l e R s m args below meth c s.heap [] 0 0 (MQ below (rQi out) args s 0 0 noA) (F0 m 56 ls [])) → W p l e R s m args below meth c s.heap [] 0 0 (MQ below (rQi out) args s 0 0 noA) (F0 m 6 ls []) := by
  have hx := Z.x
  have hb := Z.b
  intro n
  induction n with
  | zero => intro x1 x2 x4 x5 res h; cases h
  | succ n ih =>
    intro x1 x2 x4 x5 res h ls hl kx
    rw [m_X10_leftByCalls_L6] at h
    refine lv_iload hx hb dX10_leftByCalls_6 (lv_at hl 4 rfl) ?_
    refine lv_aload_n hx hb dX10_leftByCalls_8 rfl (lv_at hl 0 rfl) ?_
    refine fg_1_2 Z hP wF_X10_18 dX10_leftByCalls_9 ?_
    refine lv_icmp_ge (tgt := 56) hx hb dX10_leftByCalls_12 (by decide) (fun c1 => ?_) (fun c1 => ?_)
    · rw [if_pos c1] at h
      obtain rfl := Option.some.inj h
      exact kx _ (lv_sub hl [3] rfl)
    · rw [if_neg c1] at h
      refine lv_aload_n hx hb dX10_leftByCalls_15 rfl (lv_at hl 0 rfl) ?_
      refine lv_iload hx hb dX10_leftByCalls_16 (lv_at hl 4 rfl) ?_
      refine lv_iload_n hx hb dX10_leftByCalls_18 rfl (lv_at hl 2 rfl) ?_
      refine lv_iload_n hx hb dX10_leftByCalls_19 rfl (lv_at hl 1 rfl) ?_
      obtain ⟨v2, hv2, h⟩ := bd h
      refine zqi (zrunV Z hP (As := [.int x5, .int x2, .int x1]) (rest := []) (c_X10_isCallOf Z.i (R := { frames := 0, cells := 0, slots := 0, locals := 0 }) (Nat.le_refl _) (Nat.le_refl _) hv2) cV_X10_61 rfl rfl ⟨(Nat.le_trans (Nat.le_of_ble_eq_true rfl) hRf), (Nat.le_trans (Nat.le_of_ble_eq_true rfl) hRl)⟩ 1 (gW_o rfl) rfl rfl rfl hl.1 rfl (Nat.le_of_ble_eq_true rfl) dX10_leftByCalls_20 ⟨Nat.zero_le _, Nat.zero_le _⟩) ?_
      refine lv_if_eq (tgt := 50) hx hb dX10_leftByCalls_23 (by decide) (fun c3 => ?_) (fun c3 => ?_)
      · rw [if_pos c3] at h
        refine lv_iinc (v := (x5 + 1)) (lv' := [(5, .int (x5 + 1)), (0, .ref (ad 1)), (1, .int x1), (2, .int x2), (4, .int x4)]) hx hb dX10_leftByCalls_50 hl (k := 4) rfl rfl (by decide) rfl (fun ls hl => ?_)
        refine lv_goto (tgt := 6) hx hb dX10_leftByCalls_53 (by decide) ?_
        exact ih x1 x2 x4 ((x5 + 1)) _ h _ (lv_sub hl [1, 2, 3, 4, 0] rfl) kx
      · rw [if_neg c3] at h
        refine lv_iload hx hb dX10_leftByCalls_26 (lv_at hl 3 rfl) ?_
        refine lv_aload_n hx hb dX10_leftByCalls_28 rfl (lv_at hl 0 rfl) ?_
        refine fg_1_9 Z hP wF_X10_40 dX10_leftByCalls_29 ?_
        refine lv_iload hx hb dX10_leftByCalls_32 (lv_at hl 4 rfl) ?_
        obtain ⟨v4, hv4, h⟩ := bd h
        refine zc_ld (j := 5) Z hP hv4 dX10_leftByCalls_34 ?_
        refine lv_icmp_lt (tgt := 50) hx hb dX10_leftByCalls_35 (by decide) (fun c5 => ?_) (fun c5 => ?_)
        · rw [if_pos c5] at h
          refine lv_iinc (v := (x5 + 1)) (lv' := [(5, .int (x5 + 1)), (0, .ref (ad 1)), (1, .int x1), (2, .int x2), (4, .int x4)]) hx hb dX10_leftByCalls_50 hl (k := 4) rfl rfl (by decide) rfl (fun ls hl => ?_)
          refine lv_goto (tgt := 6) hx hb dX10_leftByCalls_53 (by decide) ?_
          exact ih x1 x2 x4 ((x5 + 1)) _ h _ (lv_sub hl [1, 2, 3, 4, 0] rfl) kx
        · rw [if_neg c5] at h
          refine lv_iload hx hb dX10_leftByCalls_38 (lv_at hl 3 rfl) ?_
          refine lv_aload_n hx hb dX10_leftByCalls_40 rfl (lv_at hl 0 rfl) ?_
          refine fg_1_9 Z hP wF_X10_40 dX10_leftByCalls_41 ?_
          refine lv_iload hx hb dX10_leftByCalls_44 (lv_at hl 4 rfl) ?_
          obtain ⟨v6, hv6, h⟩ := bd h
          refine zc_ld (j := 5) Z hP hv6 dX10_leftByCalls_46 ?_
          refine lv_isub hx hb dX10_leftByCalls_47 ?_
          refine lv_istore (lv' := [(4, .int (x4 - v6)), (0, .ref (ad 1)), (1, .int x1), (2, .int x2), (5, .int x5)]) hx hb dX10_leftByCalls_48 hl (by decide) rfl (fun ls hl => ?_)
          refine lv_iinc (v := (x5 + 1)) (lv' := [(5, .int (x5 + 1)), (4, .int (x4 - v6)), (0, .ref (ad 1)), (1, .int x1), (2, .int x2)]) hx hb dX10_leftByCalls_50 hl (k := 4) rfl rfl (by decide) rfl (fun ls hl => ?_)
          refine lv_goto (tgt := 6) hx hb dX10_leftByCalls_53 (by decide) ?_
          exact ih x1 x2 ((x4 - v6)) ((x5 + 1)) _ h _ (lv_sub hl [2, 3, 4, 1, 0] rfl) kx
set_option maxHeartbeats 4000000 in
set_option maxRecDepth 100000 in
theorem c_X10_leftByCalls {l : Launch} {D : va_G} {cy : Nat → ClassId} {ad : Nat → Nat} {σ τ : Sx} (hI : gInj ad) {R : Room} (hRf : 1 ≤ R.frames) (hRl : 23 ≤ R.locals) {x1 : Int32} {x2 : Int32} {x3 : Int32} {out : Int32} (h : m_X10_leftByCalls σ x1 x2 x3 = some out) : Met l yX10_leftByCalls [Cond.code yX10_leftByCalls cX10_leftByCalls 6 (some .int)] R (va_Pc [.ref (ad 1), .int x1, .int x2, .int x3] (gB D cy ad σ τ)) (rQi out) 0 0 noA := by
  refine zstart [.ref (ad 1), .int x1, .int x2, .int x3] (by decide) rfl hI (Nat.le_of_ble_eq_true rfl) ?_
  intro p e s m below meth c Z hr hlk hP ls hl
  have hx := Z.x
  have hb := Z.b
  generalize hargs : ([.ref (ad 1), .int x1, .int x2, .int x3] : List Value).toArray = args
  have hl : lv_has ls 6 [(0, .ref (ad 1)), (1, .int x1), (2, .int x2), (3, .int x3)] := hl
  unfold m_X10_leftByCalls at h
  refine lv_iload_n hx hb dX10_leftByCalls_0 rfl (lv_at hl 3 rfl) ?_
  refine lv_istore (lv' := [(4, .int x3), (0, .ref (ad 1)), (1, .int x1), (2, .int x2), (3, .int x3)]) hx hb dX10_leftByCalls_1 hl (by decide) rfl (fun ls hl => ?_)
  refine lv_iconst (v := 0) hx hb dX10_leftByCalls_3 (by decide) ?_
  refine lv_istore (lv' := [(5, .int 0), (4, .int x3), (0, .ref (ad 1)), (1, .int x1), (2, .int x2), (3, .int x3)]) hx hb dX10_leftByCalls_4 hl (by decide) rfl (fun ls hl => ?_)
  obtain ⟨y7, hy7, h⟩ := bd h
  refine w_X10_leftByCalls_L6 Z hP hr hlk hRf hRl out FU x1 x2 x3 0 y7 hy7 _ (lv_sub hl [2, 3, 4, 1, 0] rfl) (fun ls hl => ?_)
  refine lv_iload hx hb dX10_leftByCalls_56 (lv_at hl 0 rfl) ?_
  exact zri Z hr hlk h dX10_leftByCalls_58
def m_X10_filled_J27 (σ : Sx) (x2 : Int32) (s0 : Int32) : Option (Int32) :=
  some ((if (x2 + s0) < 100 then (x2 + s0) else 100))
def m_X10_filled (σ : Sx) (x1 : Int32) (x2 : Int32) : Option (Int32) :=
  if 80 ≤ x2 then ((ldA cLn σ 1 x1).bind (fun v2 => (dvI v2 2).bind (fun v3 => m_X10_filled_J27 σ x2 ((if 1 < v3 then v3 else 1))))) else ((ldA cLn σ 1 x1).bind (fun v4 => m_X10_filled_J27 σ x2 v4))
set_option maxHeartbeats 4000000 in
set_option maxRecDepth 100000 in
theorem c_X10_filled {l : Launch} {D : va_G} {cy : Nat → ClassId} {ad : Nat → Nat} {σ τ : Sx} (hI : gInj ad) {R : Room} (hRf : 1 ≤ R.frames) (hRl : 13 ≤ R.locals) {x1 : Int32} {x2 : Int32} {out : Int32} (h : m_X10_filled σ x1 x2 = some out) : Met l yX10_filled [Cond.code yX10_filled cX10_filled 4 (some .int)] R (va_Pc [.ref (ad 1), .int x1, .int x2] (gB D cy ad σ τ)) (rQi out) 0 0 noA := by
  refine zstart [.ref (ad 1), .int x1, .int x2] (by decide) rfl hI (Nat.le_of_ble_eq_true rfl) ?_
  intro p e s m below meth c Z hr hlk hP ls hl
  have hx := Z.x
  have hb := Z.b
  generalize hargs : ([.ref (ad 1), .int x1, .int x2] : List Value).toArray = args
  have hl : lv_has ls 4 [(0, .ref (ad 1)), (1, .int x1), (2, .int x2)] := hl
  have J27 : ∀ (x2 : Int32) (s0 : Int32), m_X10_filled_J27 σ x2 s0 = some out → ∀ ls : Array Slot, lv_has ls 4 [(2, .int x2)] → W p l e R s m args below meth c s.heap [] 0 0 (MQ below (rQi out) args s 0 0 noA) (F0 m 27 ls [.int s0]) := by
    intro x2 s0 h ls hl
    unfold m_X10_filled_J27 at h
    refine lv_istore_n (lv' := [(3, .int s0), (2, .int x2)]) hx hb dX10_filled_27 rfl hl (by decide) rfl (fun ls hl => ?_)
    refine lv_bipush (v := 100) hx hb dX10_filled_28 (by decide) ?_
    refine lv_iload_n hx hb dX10_filled_30 rfl (lv_at hl 1 rfl) ?_
    refine lv_iload_n hx hb dX10_filled_31 rfl (lv_at hl 0 rfl) ?_
    refine lv_iadd hx hb dX10_filled_32 ?_
    refine va_mmin (rest := []) hx hb (Z.ml.trans hl.1.symm) Z.o (Z.t _ wA_X10_71 rfl _) (Z.t _ wM_min1 rfl _) (Z.t _ wM_i rfl _) (Z.t _ wM_min2 rfl _) (Nat.le_trans (Nat.le_of_ble_eq_true rfl) hRf) (Nat.le_trans (Nat.le_of_ble_eq_true rfl) hRl) (Nat.zero_le _) (Nat.zero_le _) dX10_filled_33 ?_
    exact zri Z hr hlk h dX10_filled_36
  unfold m_X10_filled at h
  refine lv_iload_n hx hb dX10_filled_0 rfl (lv_at hl 2 rfl) ?_
  refine lv_bipush (v := 80) hx hb dX10_filled_1 (by decide) ?_
  refine lv_icmp_ge (tgt := 15) hx hb dX10_filled_3 (by decide) (fun c1 => ?_) (fun c1 => ?_)
  · rw [if_pos c1] at h
    refine lv_iconst (v := 1) hx hb dX10_filled_15 (by decide) ?_
    refine lv_aload_n hx hb dX10_filled_16 rfl (lv_at hl 0 rfl) ?_
    refine fg_1_5 Z hP wF_X10_28 dX10_filled_17 ?_
    refine lv_iload_n hx hb dX10_filled_20 rfl (lv_at hl 1 rfl) ?_
    obtain ⟨v2, hv2, h⟩ := bd h
    refine zc_ld (j := 1) Z hP hv2 dX10_filled_21 ?_
    refine lv_iconst (v := 2) hx hb dX10_filled_22 (by decide) ?_
    obtain ⟨v3, hv3, h⟩ := bd h
    refine zdiv Z hv3 dX10_filled_23 ?_
    refine va_mmax (rest := []) hx hb (Z.ml.trans hl.1.symm) Z.o (Z.t _ wA_X10_65 rfl _) (Z.t _ wM_max1 rfl _) (Z.t _ wM_i rfl _) (Z.t _ wM_max2 rfl _) (Nat.le_trans (Nat.le_of_ble_eq_true rfl) hRf) (Nat.le_trans (Nat.le_of_ble_eq_true rfl) hRl) (Nat.zero_le _) (Nat.zero_le _) dX10_filled_24 ?_
    exact J27 x2 ((if 1 < v3 then v3 else 1)) h _ (lv_sub hl [2] rfl)
  · rw [if_neg c1] at h
    refine lv_aload_n hx hb dX10_filled_6 rfl (lv_at hl 0 rfl) ?_
    refine fg_1_5 Z hP wF_X10_28 dX10_filled_7 ?_
    refine lv_iload_n hx hb dX10_filled_10 rfl (lv_at hl 1 rfl) ?_
    obtain ⟨v4, hv4, h⟩ := bd h
    refine zc_ld (j := 1) Z hP hv4 dX10_filled_11 ?_
    refine lv_goto (tgt := 27) hx hb dX10_filled_12 (by decide) ?_
    exact J27 x2 v4 h _ (lv_sub hl [2] rfl)
def m_X10_drained (σ : Sx) (x1 : Int32) (x2 : Int32) : Option (Int32) :=
  (ldA cLn σ 2 x1).bind (fun v1 => some ((if 0 < (x2 - v1) then (x2 - v1) else 0)))
set_option maxHeartbeats 4000000 in
set_option maxRecDepth 100000 in
theorem c_X10_drained {l : Launch} {D : va_G} {cy : Nat → ClassId} {ad : Nat → Nat} {σ τ : Sx} (hI : gInj ad) {R : Room} (hRf : 1 ≤ R.frames) (hRl : 13 ≤ R.locals) {x1 : Int32} {x2 : Int32} {out : Int32} (h : m_X10_drained σ x1 x2 = some out) : Met l yX10_drained [Cond.code yX10_drained cX10_drained 3 (some .int)] R (va_Pc [.ref (ad 1), .int x1, .int x2] (gB D cy ad σ τ)) (rQi out) 0 0 noA := by
  refine zstart [.ref (ad 1), .int x1, .int x2] (by decide) rfl hI (Nat.le_of_ble_eq_true rfl) ?_
  intro p e s m below meth c Z hr hlk hP ls hl
  have hx := Z.x
  have hb := Z.b
  generalize hargs : ([.ref (ad 1), .int x1, .int x2] : List Value).toArray = args
  have hl : lv_has ls 3 [(0, .ref (ad 1)), (1, .int x1), (2, .int x2)] := hl
  unfold m_X10_drained at h
  refine lv_iconst (v := 0) hx hb dX10_drained_0 (by decide) ?_
  refine lv_iload_n hx hb dX10_drained_1 rfl (lv_at hl 2 rfl) ?_
  refine lv_aload_n hx hb dX10_drained_2 rfl (lv_at hl 0 rfl) ?_
  refine fg_1_6 Z hP wF_X10_31 dX10_drained_3 ?_
  refine lv_iload_n hx hb dX10_drained_6 rfl (lv_at hl 1 rfl) ?_
  obtain ⟨v1, hv1, h⟩ := bd h
  refine zc_ld (j := 2) Z hP hv1 dX10_drained_7 ?_
  refine lv_isub hx hb dX10_drained_8 ?_
  refine va_mmax (rest := []) hx hb (Z.ml.trans hl.1.symm) Z.o (Z.t _ wA_X10_65 rfl _) (Z.t _ wM_max1 rfl _) (Z.t _ wM_i rfl _) (Z.t _ wM_max2 rfl _) (Nat.le_trans (Nat.le_of_ble_eq_true rfl) hRf) (Nat.le_trans (Nat.le_of_ble_eq_true rfl) hRl) (Nat.zero_le _) (Nat.zero_le _) dX10_drained_9 ?_
  exact zri Z hr hlk h dX10_drained_12
def m_X10_levelBehind_J32 (σ : Sx) (x2 : Int32) (x5 : Int32) : Option (Int32) :=
  (m_X10_drained σ x2 x5).bind (fun v3 => some v3)
def m_X10_levelBehind (σ : Sx) (x1 : Int32) (x2 : Int32) (x3 : Int32) (x4 : Int32) : Option (Int32) :=
  (m_X10_leftByCalls σ x1 x2 x3).bind (fun v1 => if x4 = 0 then (m_X10_levelBehind_J32 σ x2 v1) else ((m_X10_isDark σ x1).bind (fun v4 => if v4 = 0 then ((m_X10_filled σ x2 v1).bind (fun v6 => some v6)) else (m_X10_levelBehind_J32 σ x2 v1))))
set_option maxHeartbeats 4000000 in
set_option maxRecDepth 100000 in
theorem c_X10_levelBehind {l : Launch} {D : va_G} {cy : Nat → ClassId} {ad : Nat → Nat} {σ τ : Sx} (hI : gInj ad) {R : Room} (hRf : 2 ≤ R.frames) (hRl : 48 ≤ R.locals) {x1 : Int32} {x2 : Int32} {x3 : Int32} {x4 : Int32} {out : Int32} (h : m_X10_levelBehind σ x1 x2 x3 x4 = some out) : Met l yX10_levelBehind [Cond.code yX10_levelBehind cX10_levelBehind 6 (some .int)] R (va_Pc [.ref (ad 1), .int x1, .int x2, .int x3, .int x4] (gB D cy ad σ τ)) (rQi out) 0 0 noA := by
  refine zstart [.ref (ad 1), .int x1, .int x2, .int x3, .int x4] (by decide) rfl hI (Nat.le_of_ble_eq_true rfl) ?_
  intro p e s m below meth c Z hr hlk hP ls hl
  have hx := Z.x
  have hb := Z.b
  generalize hargs : ([.ref (ad 1), .int x1, .int x2, .int x3, .int x4] : List Value).toArray = args
  have hl : lv_has ls 6 [(0, .ref (ad 1)), (1, .int x1), (2, .int x2), (3, .int x3), (4, .int x4)] := hl
  have J32 : ∀ (x2 : Int32) (x5 : Int32), m_X10_levelBehind_J32 σ x2 x5 = some out → ∀ ls : Array Slot, lv_has ls 6 [(0, .ref (ad 1)), (2, .int x2), (5, .int x5)] → W p l e R s m args below meth c s.heap [] 0 0 (MQ below (rQi out) args s 0 0 noA) (F0 m 32 ls []) := by
    intro x2 x5 h ls hl
    unfold m_X10_levelBehind_J32 at h
    refine lv_aload_n hx hb dX10_levelBehind_32 rfl (lv_at hl 0 rfl) ?_
    refine lv_iload_n hx hb dX10_levelBehind_33 rfl (lv_at hl 1 rfl) ?_
    refine lv_iload hx hb dX10_levelBehind_34 (lv_at hl 2 rfl) ?_
    obtain ⟨v3, hv3, h⟩ := bd h
    refine zqi (zrunV Z hP (As := [.int x2, .int x5]) (rest := []) (c_X10_drained Z.i (R := { frames := 1, cells := 0, slots := 0, locals := 13 }) (Nat.le_refl _) (Nat.le_refl _) hv3) cV_X10_85 rfl rfl ⟨(Nat.le_trans (Nat.le_of_ble_eq_true rfl) hRf), (Nat.le_trans (Nat.le_of_ble_eq_true rfl) hRl)⟩ 1 (gW_o rfl) rfl rfl rfl hl.1 rfl (Nat.le_of_ble_eq_true rfl) dX10_levelBehind_36 ⟨Nat.zero_le _, Nat.zero_le _⟩) ?_
    exact zri Z hr hlk h dX10_levelBehind_39
  unfold m_X10_levelBehind at h
  refine lv_aload_n hx hb dX10_levelBehind_0 rfl (lv_at hl 0 rfl) ?_
  refine lv_iload_n hx hb dX10_levelBehind_1 rfl (lv_at hl 1 rfl) ?_
  refine lv_iload_n hx hb dX10_levelBehind_2 rfl (lv_at hl 2 rfl) ?_
  refine lv_iload_n hx hb dX10_levelBehind_3 rfl (lv_at hl 3 rfl) ?_
  obtain ⟨v1, hv1, h⟩ := bd h
  refine zqi (zrunV Z hP (As := [.int x1, .int x2, .int x3]) (rest := []) (c_X10_leftByCalls Z.i (R := { frames := 1, cells := 0, slots := 0, locals := 23 }) (Nat.le_refl _) (Nat.le_refl _) hv1) cV_X10_74 rfl rfl ⟨(Nat.le_trans (Nat.le_of_ble_eq_true rfl) hRf), (Nat.le_trans (Nat.le_of_ble_eq_true rfl) hRl)⟩ 1 (gW_o rfl) rfl rfl rfl hl.1 rfl (Nat.le_of_ble_eq_true rfl) dX10_levelBehind_4 ⟨Nat.zero_le _, Nat.zero_le _⟩) ?_
  refine lv_istore (lv' := [(5, .int v1), (0, .ref (ad 1)), (1, .int x1), (2, .int x2), (3, .int x3), (4, .int x4)]) hx hb dX10_levelBehind_7 hl (by decide) rfl (fun ls hl => ?_)
  refine lv_iload hx hb dX10_levelBehind_9 (lv_at hl 5 rfl) ?_
  refine lv_if_eq (tgt := 32) hx hb dX10_levelBehind_11 (by decide) (fun c2 => ?_) (fun c2 => ?_)
  · rw [if_pos c2] at h
    exact J32 x2 v1 h _ (lv_sub hl [1, 3, 0] rfl)
  · rw [if_neg c2] at h
    refine lv_aload_n hx hb dX10_levelBehind_14 rfl (lv_at hl 1 rfl) ?_
    refine lv_iload_n hx hb dX10_levelBehind_15 rfl (lv_at hl 2 rfl) ?_
    obtain ⟨v4, hv4, h⟩ := bd h
    refine zqi (zrunV Z hP (As := [.int x1]) (rest := []) (c_X10_isDark Z.i (R := { frames := 0, cells := 0, slots := 0, locals := 0 }) (Nat.le_refl _) (Nat.le_refl _) hv4) cV_X10_78 rfl rfl ⟨(Nat.le_trans (Nat.le_of_ble_eq_true rfl) hRf), (Nat.le_trans (Nat.le_of_ble_eq_true rfl) hRl)⟩ 1 (gW_o rfl) rfl rfl rfl hl.1 rfl (Nat.le_of_ble_eq_true rfl) dX10_levelBehind_16 ⟨Nat.zero_le _, Nat.zero_le _⟩) ?_
    refine lv_if_ne (tgt := 32) hx hb dX10_levelBehind_19 (by decide) (fun c5 => ?_) (fun c5 => ?_)
    · rw [if_neg c5] at h
      exact J32 x2 v1 h _ (lv_sub hl [1, 3, 0] rfl)
    · rw [if_pos c5] at h
      refine lv_aload_n hx hb dX10_levelBehind_22 rfl (lv_at hl 1 rfl) ?_
      refine lv_iload_n hx hb dX10_levelBehind_23 rfl (lv_at hl 3 rfl) ?_
      refine lv_iload hx hb dX10_levelBehind_24 (lv_at hl 0 rfl) ?_
      obtain ⟨v6, hv6, h⟩ := bd h
      refine zqi (zrunV Z hP (As := [.int x2, .int v1]) (rest := []) (c_X10_filled Z.i (R := { frames := 1, cells := 0, slots := 0, locals := 13 }) (Nat.le_refl _) (Nat.le_refl _) hv6) cV_X10_82 rfl rfl ⟨(Nat.le_trans (Nat.le_of_ble_eq_true rfl) hRf), (Nat.le_trans (Nat.le_of_ble_eq_true rfl) hRl)⟩ 1 (gW_o rfl) rfl rfl rfl hl.1 rfl (Nat.le_of_ble_eq_true rfl) dX10_levelBehind_26 ⟨Nat.zero_le _, Nat.zero_le _⟩) ?_
      refine lv_goto (tgt := 39) hx hb dX10_levelBehind_29 (by decide) ?_
      exact zri Z hr hlk h dX10_levelBehind_39
end
