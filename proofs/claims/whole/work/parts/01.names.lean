/-- a private method of a class that the tables say can be made, by its rows of tables_1 -/
def lw_okq (q : MethodName × Nat) : Prop := (q.1.cls ≠ "java/lang/invoke/MethodHandle" ∧ q.1.cls ≠ "java/lang/invoke/VarHandle") ∧ Cond.instantiable q.1.cls q.2 ∈ tables_1 ∧ Cond.privateMethod q.1 ∈ tables_1 ∧ Cond.instanceMethod q.1 ∈ tables_1
theorem lw_p0 : lw_okq (⟨"StarTrade", "isPort", "(I)Z"⟩, 12) := ⟨⟨by decide +kernel, by decide +kernel⟩, List.mem_of_getElem? (i := 16) (by decide +kernel), List.mem_of_getElem? (i := 408) (by decide +kernel), List.mem_of_getElem? (i := 409) (by decide +kernel)⟩
theorem lw_p1 : lw_okq (⟨"StarTrade", "passTicks", "(I)V"⟩, 12) := ⟨⟨by decide +kernel, by decide +kernel⟩, List.mem_of_getElem? (i := 16) (by decide +kernel), List.mem_of_getElem? (i := 474) (by decide +kernel), List.mem_of_getElem? (i := 475) (by decide +kernel)⟩
theorem lw_p2 : lw_okq (⟨"StarTrade", "passTicksOf", "(LStarTrade$Shelf;I)V"⟩, 12) := ⟨⟨by decide +kernel, by decide +kernel⟩, List.mem_of_getElem? (i := 16) (by decide +kernel), List.mem_of_getElem? (i := 478) (by decide +kernel), List.mem_of_getElem? (i := 479) (by decide +kernel)⟩
theorem lw_p3 : lw_okq (⟨"StarTrade$Flow", "bring", "(I)V"⟩, 6) := ⟨⟨by decide +kernel, by decide +kernel⟩, List.mem_of_getElem? (i := 176) (by decide +kernel), List.mem_of_getElem? (i := 486) (by decide +kernel), List.mem_of_getElem? (i := 487) (by decide +kernel)⟩
theorem lw_p4 : lw_okq (⟨"StarTrade$Flow", "makeAndUse", "(LStarTrade$Shelf;I)V"⟩, 6) := ⟨⟨by decide +kernel, by decide +kernel⟩, List.mem_of_getElem? (i := 176) (by decide +kernel), List.mem_of_getElem? (i := 494) (by decide +kernel), List.mem_of_getElem? (i := 495) (by decide +kernel)⟩
theorem lw_p5 : lw_okq (⟨"StarTrade$Calendar", "move", "(II)V"⟩, 4) := ⟨⟨by decide +kernel, by decide +kernel⟩, List.mem_of_getElem? (i := 98) (by decide +kernel), List.mem_of_getElem? (i := 502) (by decide +kernel), List.mem_of_getElem? (i := 503) (by decide +kernel)⟩
theorem lw_p6 : lw_okq (⟨"StarTrade", "refusalOfDeal", "(III)I"⟩, 12) := ⟨⟨by decide +kernel, by decide +kernel⟩, List.mem_of_getElem? (i := 16) (by decide +kernel), List.mem_of_getElem? (i := 523) (by decide +kernel), List.mem_of_getElem? (i := 524) (by decide +kernel)⟩
theorem lw_p7 : lw_okq (⟨"StarTrade", "isShip", "(I)Z"⟩, 12) := ⟨⟨by decide +kernel, by decide +kernel⟩, List.mem_of_getElem? (i := 16) (by decide +kernel), List.mem_of_getElem? (i := 527) (by decide +kernel), List.mem_of_getElem? (i := 528) (by decide +kernel)⟩
theorem lw_p8 : lw_okq (⟨"StarTrade$Deal", "begin", "(II)V"⟩, 5) := ⟨⟨by decide +kernel, by decide +kernel⟩, List.mem_of_getElem? (i := 208) (by decide +kernel), List.mem_of_getElem? (i := 540) (by decide +kernel), List.mem_of_getElem? (i := 541) (by decide +kernel)⟩
theorem lw_p9 : lw_okq (⟨"StarTrade$Deal", "count", "(II)V"⟩, 5) := ⟨⟨by decide +kernel, by decide +kernel⟩, List.mem_of_getElem? (i := 208) (by decide +kernel), List.mem_of_getElem? (i := 545) (by decide +kernel), List.mem_of_getElem? (i := 546) (by decide +kernel)⟩
theorem lw_p10 : lw_okq (⟨"StarTrade", "unitsInAll", "()I"⟩, 12) := ⟨⟨by decide +kernel, by decide +kernel⟩, List.mem_of_getElem? (i := 16) (by decide +kernel), List.mem_of_getElem? (i := 579) (by decide +kernel), List.mem_of_getElem? (i := 580) (by decide +kernel)⟩
theorem lw_p11 : lw_okq (⟨"StarTrade", "coinsOfShips", "()I"⟩, 12) := ⟨⟨by decide +kernel, by decide +kernel⟩, List.mem_of_getElem? (i := 16) (by decide +kernel), List.mem_of_getElem? (i := 583) (by decide +kernel), List.mem_of_getElem? (i := 584) (by decide +kernel)⟩
theorem lw_p12 : lw_okq (⟨"StarTrade$RingSearch", "fillLegGains", "(I)V"⟩, 7) := ⟨⟨by decide +kernel, by decide +kernel⟩, List.mem_of_getElem? (i := 238) (by decide +kernel), List.mem_of_getElem? (i := 595) (by decide +kernel), List.mem_of_getElem? (i := 596) (by decide +kernel)⟩
theorem lw_p13 : lw_okq (⟨"StarTrade$RingSearch", "gainOfUnit", "(II)I"⟩, 7) := ⟨⟨by decide +kernel, by decide +kernel⟩, List.mem_of_getElem? (i := 238) (by decide +kernel), List.mem_of_getElem? (i := 599) (by decide +kernel), List.mem_of_getElem? (i := 600) (by decide +kernel)⟩
theorem lw_p14 : lw_okq (⟨"StarTrade$RingSearch", "extend", "(III)V"⟩, 7) := ⟨⟨by decide +kernel, by decide +kernel⟩, List.mem_of_getElem? (i := 238) (by decide +kernel), List.mem_of_getElem? (i := 606) (by decide +kernel), List.mem_of_getElem? (i := 607) (by decide +kernel)⟩
theorem lw_p15 : lw_okq (⟨"StarTrade$RingSearch", "compare", "(III)V"⟩, 7) := ⟨⟨by decide +kernel, by decide +kernel⟩, List.mem_of_getElem? (i := 238) (by decide +kernel), List.mem_of_getElem? (i := 611) (by decide +kernel), List.mem_of_getElem? (i := 612) (by decide +kernel)⟩
def lw_privs_1 : List (MethodName × Nat) := [(⟨"StarTrade", "isPort", "(I)Z"⟩, 12), (⟨"StarTrade", "passTicks", "(I)V"⟩, 12), (⟨"StarTrade", "passTicksOf", "(LStarTrade$Shelf;I)V"⟩, 12), (⟨"StarTrade$Flow", "bring", "(I)V"⟩, 6), (⟨"StarTrade$Flow", "makeAndUse", "(LStarTrade$Shelf;I)V"⟩, 6), (⟨"StarTrade$Calendar", "move", "(II)V"⟩, 4), (⟨"StarTrade", "refusalOfDeal", "(III)I"⟩, 12), (⟨"StarTrade", "isShip", "(I)Z"⟩, 12), (⟨"StarTrade$Deal", "begin", "(II)V"⟩, 5), (⟨"StarTrade$Deal", "count", "(II)V"⟩, 5), (⟨"StarTrade", "unitsInAll", "()I"⟩, 12), (⟨"StarTrade", "coinsOfShips", "()I"⟩, 12), (⟨"StarTrade$RingSearch", "fillLegGains", "(I)V"⟩, 7), (⟨"StarTrade$RingSearch", "gainOfUnit", "(II)I"⟩, 7), (⟨"StarTrade$RingSearch", "extend", "(III)V"⟩, 7), (⟨"StarTrade$RingSearch", "compare", "(III)V"⟩, 7)]
theorem lw_r1 : ∀ q ∈ lw_privs_1, lw_okq q := List.forall_mem_cons.mpr ⟨lw_p0, List.forall_mem_cons.mpr ⟨lw_p1, List.forall_mem_cons.mpr ⟨lw_p2, List.forall_mem_cons.mpr ⟨lw_p3, List.forall_mem_cons.mpr ⟨lw_p4, List.forall_mem_cons.mpr ⟨lw_p5, List.forall_mem_cons.mpr ⟨lw_p6, List.forall_mem_cons.mpr ⟨lw_p7, List.forall_mem_cons.mpr ⟨lw_p8, List.forall_mem_cons.mpr ⟨lw_p9, List.forall_mem_cons.mpr ⟨lw_p10, List.forall_mem_cons.mpr ⟨lw_p11, List.forall_mem_cons.mpr ⟨lw_p12, List.forall_mem_cons.mpr ⟨lw_p13, List.forall_mem_cons.mpr ⟨lw_p14, List.forall_mem_cons.mpr ⟨lw_p15, fun _ h => absurd h List.not_mem_nil⟩⟩⟩⟩⟩⟩⟩⟩⟩⟩⟩⟩⟩⟩⟩⟩
theorem lw_p16 : lw_okq (⟨"StarTrade$RingSearch", "isOnPath", "(II)Z"⟩, 7) := ⟨⟨by decide +kernel, by decide +kernel⟩, List.mem_of_getElem? (i := 238) (by decide +kernel), List.mem_of_getElem? (i := 618) (by decide +kernel), List.mem_of_getElem? (i := 619) (by decide +kernel)⟩
theorem lw_p17 : lw_okq (⟨"StarTrade$PlanSearch", "arrive", "(LStarTrade$Stop;III)V"⟩, 15) := ⟨⟨by decide +kernel, by decide +kernel⟩, List.mem_of_getElem? (i := 271) (by decide +kernel), List.mem_of_getElem? (i := 632) (by decide +kernel), List.mem_of_getElem? (i := 633) (by decide +kernel)⟩
theorem lw_p18 : lw_okq (⟨"StarTrade$PlanSearch", "extend", "(I)V"⟩, 15) := ⟨⟨by decide +kernel, by decide +kernel⟩, List.mem_of_getElem? (i := 271) (by decide +kernel), List.mem_of_getElem? (i := 636) (by decide +kernel), List.mem_of_getElem? (i := 637) (by decide +kernel)⟩
theorem lw_p19 : lw_okq (⟨"StarTrade$PlanSearch", "compare", "(I)V"⟩, 15) := ⟨⟨by decide +kernel, by decide +kernel⟩, List.mem_of_getElem? (i := 271) (by decide +kernel), List.mem_of_getElem? (i := 640) (by decide +kernel), List.mem_of_getElem? (i := 641) (by decide +kernel)⟩
theorem lw_p20 : lw_okq (⟨"StarTrade$PlanSearch", "buyEach", "(LStarTrade$Stop;)V"⟩, 15) := ⟨⟨by decide +kernel, by decide +kernel⟩, List.mem_of_getElem? (i := 271) (by decide +kernel), List.mem_of_getElem? (i := 645) (by decide +kernel), List.mem_of_getElem? (i := 646) (by decide +kernel)⟩
theorem lw_p21 : lw_okq (⟨"StarTrade$PlanSearch", "stockOf", "(LStarTrade$Shelf;I)I"⟩, 15) := ⟨⟨by decide +kernel, by decide +kernel⟩, List.mem_of_getElem? (i := 271) (by decide +kernel), List.mem_of_getElem? (i := 649) (by decide +kernel), List.mem_of_getElem? (i := 650) (by decide +kernel)⟩
theorem lw_p22 : lw_okq (⟨"StarTrade$PlanSearch", "travel", "(IIII)V"⟩, 15) := ⟨⟨by decide +kernel, by decide +kernel⟩, List.mem_of_getElem? (i := 271) (by decide +kernel), List.mem_of_getElem? (i := 656) (by decide +kernel), List.mem_of_getElem? (i := 657) (by decide +kernel)⟩
theorem lw_p23 : lw_okq (⟨"StarTrade$PlanSearch", "leave", "(LStarTrade$Shelf;II)V"⟩, 15) := ⟨⟨by decide +kernel, by decide +kernel⟩, List.mem_of_getElem? (i := 271) (by decide +kernel), List.mem_of_getElem? (i := 660) (by decide +kernel), List.mem_of_getElem? (i := 661) (by decide +kernel)⟩
theorem lw_p24 : lw_okq (⟨"StarTradeModel", "isPort", "(I)Z"⟩, 42) := ⟨⟨by decide +kernel, by decide +kernel⟩, List.mem_of_getElem? (i := 673) (by decide +kernel), List.mem_of_getElem? (i := 815) (by decide +kernel), List.mem_of_getElem? (i := 816) (by decide +kernel)⟩
theorem lw_p25 : lw_okq (⟨"StarTradeModel", "of", "(II)I"⟩, 42) := ⟨⟨by decide +kernel, by decide +kernel⟩, List.mem_of_getElem? (i := 673) (by decide +kernel), List.mem_of_getElem? (i := 830) (by decide +kernel), List.mem_of_getElem? (i := 831) (by decide +kernel)⟩
theorem lw_p26 : lw_okq (⟨"StarTradeModel", "priceWith", "(II)I"⟩, 42) := ⟨⟨by decide +kernel, by decide +kernel⟩, List.mem_of_getElem? (i := 673) (by decide +kernel), List.mem_of_getElem? (i := 838) (by decide +kernel), List.mem_of_getElem? (i := 839) (by decide +kernel)⟩
theorem lw_p27 : lw_okq (⟨"StarTradeModel", "tickOnce", "()V"⟩, 42) := ⟨⟨by decide +kernel, by decide +kernel⟩, List.mem_of_getElem? (i := 673) (by decide +kernel), List.mem_of_getElem? (i := 867) (by decide +kernel), List.mem_of_getElem? (i := 868) (by decide +kernel)⟩
theorem lw_p28 : lw_okq (⟨"StarTradeModel", "whyNot", "(III)I"⟩, 42) := ⟨⟨by decide +kernel, by decide +kernel⟩, List.mem_of_getElem? (i := 673) (by decide +kernel), List.mem_of_getElem? (i := 889) (by decide +kernel), List.mem_of_getElem? (i := 890) (by decide +kernel)⟩
theorem lw_p29 : lw_okq (⟨"StarTradeModel", "isShip", "(I)Z"⟩, 42) := ⟨⟨by decide +kernel, by decide +kernel⟩, List.mem_of_getElem? (i := 673) (by decide +kernel), List.mem_of_getElem? (i := 893) (by decide +kernel), List.mem_of_getElem? (i := 894) (by decide +kernel)⟩
theorem lw_p30 : lw_okq (⟨"StarTradeModel", "load", "(I)I"⟩, 42) := ⟨⟨by decide +kernel, by decide +kernel⟩, List.mem_of_getElem? (i := 673) (by decide +kernel), List.mem_of_getElem? (i := 897) (by decide +kernel), List.mem_of_getElem? (i := 898) (by decide +kernel)⟩
theorem lw_p31 : lw_okq (⟨"StarTradeModel", "gainWith", "(II)I"⟩, 42) := ⟨⟨by decide +kernel, by decide +kernel⟩, List.mem_of_getElem? (i := 673) (by decide +kernel), List.mem_of_getElem? (i := 905) (by decide +kernel), List.mem_of_getElem? (i := 906) (by decide +kernel)⟩
def lw_privs_2 : List (MethodName × Nat) := [(⟨"StarTrade$RingSearch", "isOnPath", "(II)Z"⟩, 7), (⟨"StarTrade$PlanSearch", "arrive", "(LStarTrade$Stop;III)V"⟩, 15), (⟨"StarTrade$PlanSearch", "extend", "(I)V"⟩, 15), (⟨"StarTrade$PlanSearch", "compare", "(I)V"⟩, 15), (⟨"StarTrade$PlanSearch", "buyEach", "(LStarTrade$Stop;)V"⟩, 15), (⟨"StarTrade$PlanSearch", "stockOf", "(LStarTrade$Shelf;I)I"⟩, 15), (⟨"StarTrade$PlanSearch", "travel", "(IIII)V"⟩, 15), (⟨"StarTrade$PlanSearch", "leave", "(LStarTrade$Shelf;II)V"⟩, 15), (⟨"StarTradeModel", "isPort", "(I)Z"⟩, 42), (⟨"StarTradeModel", "of", "(II)I"⟩, 42), (⟨"StarTradeModel", "priceWith", "(II)I"⟩, 42), (⟨"StarTradeModel", "tickOnce", "()V"⟩, 42), (⟨"StarTradeModel", "whyNot", "(III)I"⟩, 42), (⟨"StarTradeModel", "isShip", "(I)Z"⟩, 42), (⟨"StarTradeModel", "load", "(I)I"⟩, 42), (⟨"StarTradeModel", "gainWith", "(II)I"⟩, 42)]
theorem lw_r2 : ∀ q ∈ lw_privs_2, lw_okq q := List.forall_mem_cons.mpr ⟨lw_p16, List.forall_mem_cons.mpr ⟨lw_p17, List.forall_mem_cons.mpr ⟨lw_p18, List.forall_mem_cons.mpr ⟨lw_p19, List.forall_mem_cons.mpr ⟨lw_p20, List.forall_mem_cons.mpr ⟨lw_p21, List.forall_mem_cons.mpr ⟨lw_p22, List.forall_mem_cons.mpr ⟨lw_p23, List.forall_mem_cons.mpr ⟨lw_p24, List.forall_mem_cons.mpr ⟨lw_p25, List.forall_mem_cons.mpr ⟨lw_p26, List.forall_mem_cons.mpr ⟨lw_p27, List.forall_mem_cons.mpr ⟨lw_p28, List.forall_mem_cons.mpr ⟨lw_p29, List.forall_mem_cons.mpr ⟨lw_p30, List.forall_mem_cons.mpr ⟨lw_p31, fun _ h => absurd h List.not_mem_nil⟩⟩⟩⟩⟩⟩⟩⟩⟩⟩⟩⟩⟩⟩⟩⟩
theorem lw_p32 : lw_okq (⟨"StarTradeModel", "lookAll", "(II)V"⟩, 42) := ⟨⟨by decide +kernel, by decide +kernel⟩, List.mem_of_getElem? (i := 673) (by decide +kernel), List.mem_of_getElem? (i := 933) (by decide +kernel), List.mem_of_getElem? (i := 934) (by decide +kernel)⟩
theorem lw_p33 : lw_okq (⟨"StarTradeModel", "look", "(II)V"⟩, 42) := ⟨⟨by decide +kernel, by decide +kernel⟩, List.mem_of_getElem? (i := 673) (by decide +kernel), List.mem_of_getElem? (i := 937) (by decide +kernel), List.mem_of_getElem? (i := 938) (by decide +kernel)⟩
theorem lw_p34 : lw_okq (⟨"StarTradeModel", "legGain", "(III)I"⟩, 42) := ⟨⟨by decide +kernel, by decide +kernel⟩, List.mem_of_getElem? (i := 673) (by decide +kernel), List.mem_of_getElem? (i := 941) (by decide +kernel), List.mem_of_getElem? (i := 942) (by decide +kernel)⟩
theorem lw_p35 : lw_okq (⟨"StarTradeModel", "isLess", "(I)Z"⟩, 42) := ⟨⟨by decide +kernel, by decide +kernel⟩, List.mem_of_getElem? (i := 673) (by decide +kernel), List.mem_of_getElem? (i := 945) (by decide +kernel), List.mem_of_getElem? (i := 946) (by decide +kernel)⟩
theorem lw_p36 : lw_okq (⟨"StarTradeModel", "trip", "(III)Z"⟩, 42) := ⟨⟨by decide +kernel, by decide +kernel⟩, List.mem_of_getElem? (i := 673) (by decide +kernel), List.mem_of_getElem? (i := 954) (by decide +kernel), List.mem_of_getElem? (i := 955) (by decide +kernel)⟩
theorem lw_p37 : lw_okq (⟨"StarTradeModel", "tickThen", "()V"⟩, 42) := ⟨⟨by decide +kernel, by decide +kernel⟩, List.mem_of_getElem? (i := 673) (by decide +kernel), List.mem_of_getElem? (i := 958) (by decide +kernel), List.mem_of_getElem? (i := 959) (by decide +kernel)⟩
def lw_privs_3 : List (MethodName × Nat) := [(⟨"StarTradeModel", "lookAll", "(II)V"⟩, 42), (⟨"StarTradeModel", "look", "(II)V"⟩, 42), (⟨"StarTradeModel", "legGain", "(III)I"⟩, 42), (⟨"StarTradeModel", "isLess", "(I)Z"⟩, 42), (⟨"StarTradeModel", "trip", "(III)Z"⟩, 42), (⟨"StarTradeModel", "tickThen", "()V"⟩, 42)]
theorem lw_r3 : ∀ q ∈ lw_privs_3, lw_okq q := List.forall_mem_cons.mpr ⟨lw_p32, List.forall_mem_cons.mpr ⟨lw_p33, List.forall_mem_cons.mpr ⟨lw_p34, List.forall_mem_cons.mpr ⟨lw_p35, List.forall_mem_cons.mpr ⟨lw_p36, List.forall_mem_cons.mpr ⟨lw_p37, fun _ h => absurd h List.not_mem_nil⟩⟩⟩⟩⟩⟩
def lw_privs : List (MethodName × Nat) := lw_privs_1 ++ (lw_privs_2 ++ (lw_privs_3))
def lw_tbl : List Cond := k2_sels lw_privs ++ tables_1
theorem lw_privs_ok : ∀ q ∈ lw_privs, lw_okq q := by
  show ∀ q ∈ lw_privs_1 ++ (lw_privs_2 ++ (lw_privs_3)), lw_okq q
  exact List.forall_mem_append.mpr ⟨lw_r1, List.forall_mem_append.mpr ⟨lw_r2, lw_r3⟩⟩
def RX0 : String := "StarTrade$Calendar"
def TX0 : u_T := fun k => match k with
  | 0 => ("StarTrade$Calendar", "ticks", "[I", true)
  | 1 => ("StarTrade$Calendar", "places", "[I", true)
  | 2 => ("StarTrade$Calendar", "changes", "[I", true)
  | _ => ("StarTrade$Calendar", "count", "I", false)
def tyX0 : Nat → FieldType := fun k => match k with
  | 0 => .array .int
  | 1 => .array .int
  | 2 => .array .int
  | _ => .int
abbrev wsX00 : List Cond := u_ws RX0 TX0 4
theorem nmX0 : ∀ a, a < 4 → ∀ b, b < 4 → a ≠ b → (TX0 a).2.1 ≠ (TX0 b).2.1 := by decide +kernel
theorem tyX0_ok : ∀ k, k < 4 → parseFieldDescriptor (TX0 k).2.2.1 = some (tyX0 k) := by decide +kernel
abbrev cX0_init : ByteArray := prog_2_method_1_code
def yX0_init : MethodName := ⟨RX0, "<init>", "()V"⟩
abbrev cX0_add : ByteArray := prog_2_method_2_code
def yX0_add : MethodName := ⟨RX0, "add", "(III)V"⟩
abbrev cX0_dropBefore : ByteArray := prog_2_method_3_code
def yX0_dropBefore : MethodName := ⟨RX0, "dropBefore", "(I)V"⟩
abbrev cX0_move : ByteArray := prog_2_method_4_code
def yX0_move : MethodName := ⟨RX0, "move", "(II)V"⟩
def RX1 : String := "StarTrade$Deal"
def TX1 : u_T := fun k => match k with
  | 0 => ("StarTrade$Deal", "units", "I", false)
  | 1 => ("StarTrade$Deal", "stock", "I", false)
  | 2 => ("StarTrade$Deal", "coins", "I", false)
  | 3 => ("StarTrade$Deal", "worth", "I", false)
  | _ => ("StarTrade$Deal", "taxes", "I", false)
def tyX1 : Nat → FieldType := fun k => match k with
  | 0 => .int
  | 1 => .int
  | 2 => .int
  | 3 => .int
  | _ => .int
abbrev wsX10 : List Cond := u_ws RX1 TX1 5
theorem nmX1 : ∀ a, a < 5 → ∀ b, b < 5 → a ≠ b → (TX1 a).2.1 ≠ (TX1 b).2.1 := by decide +kernel
theorem tyX1_ok : ∀ k, k < 5 → parseFieldDescriptor (TX1 k).2.2.1 = some (tyX1 k) := by decide +kernel
abbrev cX1_init : ByteArray := prog_3_method_1_code
def yX1_init : MethodName := ⟨RX1, "<init>", "()V"⟩
abbrev cX1_purchase : ByteArray := prog_3_method_2_code
def yX1_purchase : MethodName := ⟨RX1, "purchase", "(LStarTrade$Shelf;IIII)V"⟩
abbrev cX1_sale : ByteArray := prog_3_method_3_code
def yX1_sale : MethodName := ⟨RX1, "sale", "(LStarTrade$Shelf;IIII)V"⟩
abbrev cX1_begin : ByteArray := prog_3_method_4_code
def yX1_begin : MethodName := ⟨RX1, "begin", "(II)V"⟩
abbrev cX1_count : ByteArray := prog_3_method_5_code
def yX1_count : MethodName := ⟨RX1, "count", "(II)V"⟩
def RX2 : String := "StarTrade$Flow"
def TX2 : u_T := fun k => match k with
  | 0 => ("StarTrade$Flow", "stock", "I", false)
  | 1 => ("StarTrade$Flow", "made", "I", false)
  | 2 => ("StarTrade$Flow", "used", "I", false)
  | 3 => ("StarTrade$Flow", "brought", "I", false)
  | 4 => ("StarTrade$Flow", "lack", "I", false)
  | _ => ("StarTrade$Flow", "firstLack", "I", false)
def tyX2 : Nat → FieldType := fun k => match k with
  | 0 => .int
  | 1 => .int
  | 2 => .int
  | 3 => .int
  | 4 => .int
  | _ => .int
abbrev wsX20 : List Cond := u_ws RX2 TX2 6
theorem nmX2 : ∀ a, a < 6 → ∀ b, b < 6 → a ≠ b → (TX2 a).2.1 ≠ (TX2 b).2.1 := by decide +kernel
theorem tyX2_ok : ∀ k, k < 6 → parseFieldDescriptor (TX2 k).2.2.1 = some (tyX2 k) := by decide +kernel
abbrev cX2_init : ByteArray := prog_4_method_1_code
def yX2_init : MethodName := ⟨RX2, "<init>", "()V"⟩
abbrev cX2_follow : ByteArray := prog_4_method_2_code
def yX2_follow : MethodName := ⟨RX2, "follow", "(LStarTrade$Shelf;LStarTrade$Calendar;III)V"⟩
abbrev cX2_bring : ByteArray := prog_4_method_3_code
def yX2_bring : MethodName := ⟨RX2, "bring", "(I)V"⟩
abbrev cX2_makeAndUse : ByteArray := prog_4_method_4_code
def yX2_makeAndUse : MethodName := ⟨RX2, "makeAndUse", "(LStarTrade$Shelf;I)V"⟩
def RX3 : String := "StarTrade$PlanSearch"
def TX3 : u_T := fun k => match k with
  | 0 => ("StarTrade$PlanSearch", "world", "LStarTrade$World;", true)
  | 1 => ("StarTrade$PlanSearch", "flow", "LStarTrade$Flow;", true)
  | 2 => ("StarTrade$PlanSearch", "deal", "LStarTrade$Deal;", true)
  | 3 => ("StarTrade$PlanSearch", "stops", "[LStarTrade$Stop;", true)
  | 4 => ("StarTrade$PlanSearch", "stocks", "[I", true)
  | 5 => ("StarTrade$PlanSearch", "times", "[I", true)
  | 6 => ("StarTrade$PlanSearch", "pathPorts", "[I", true)
  | 7 => ("StarTrade$PlanSearch", "pathGoods", "[I", true)
  | 8 => ("StarTrade$PlanSearch", "trips", "I", false)
  | 9 => ("StarTrade$PlanSearch", "hold", "I", false)
  | 10 => ("StarTrade$PlanSearch", "found", "Z", false)
  | 11 => ("StarTrade$PlanSearch", "bestPorts", "[I", true)
  | 12 => ("StarTrade$PlanSearch", "bestGoods", "[I", true)
  | 13 => ("StarTrade$PlanSearch", "bestCoins", "I", false)
  | _ => ("StarTrade$PlanSearch", "foundTrips", "I", false)
def tyX3 : Nat → FieldType := fun k => match k with
  | 0 => .object "StarTrade$World"
  | 1 => .object "StarTrade$Flow"
  | 2 => .object "StarTrade$Deal"
  | 3 => .array (.object "StarTrade$Stop")
  | 4 => .array .int
  | 5 => .array .int
  | 6 => .array .int
  | 7 => .array .int
  | 8 => .int
  | 9 => .int
  | 10 => .boolean
  | 11 => .array .int
  | 12 => .array .int
  | 13 => .int
  | _ => .int
abbrev wsX30 : List Cond := u_ws RX3 TX3 15
theorem nmX3 : ∀ a, a < 15 → ∀ b, b < 15 → a ≠ b → (TX3 a).2.1 ≠ (TX3 b).2.1 := by decide +kernel
theorem tyX3_ok : ∀ k, k < 15 → parseFieldDescriptor (TX3 k).2.2.1 = some (tyX3 k) := by decide +kernel
abbrev cX3_init : ByteArray := prog_5_method_1_code
def yX3_init : MethodName := ⟨RX3, "<init>", "(LStarTrade$World;)V"⟩
abbrev cX3_seek : ByteArray := prog_5_method_2_code
def yX3_seek : MethodName := ⟨RX3, "seek", "(IIII)Z"⟩
abbrev cX3_arrive : ByteArray := prog_5_method_3_code
def yX3_arrive : MethodName := ⟨RX3, "arrive", "(LStarTrade$Stop;III)V"⟩
abbrev cX3_extend : ByteArray := prog_5_method_4_code
def yX3_extend : MethodName := ⟨RX3, "extend", "(I)V"⟩
abbrev cX3_compare : ByteArray := prog_5_method_5_code
def yX3_compare : MethodName := ⟨RX3, "compare", "(I)V"⟩
abbrev cX3_buyEach : ByteArray := prog_5_method_6_code
def yX3_buyEach : MethodName := ⟨RX3, "buyEach", "(LStarTrade$Stop;)V"⟩
abbrev cX3_stockOf : ByteArray := prog_5_method_7_code
def yX3_stockOf : MethodName := ⟨RX3, "stockOf", "(LStarTrade$Shelf;I)I"⟩
abbrev cX3_travel : ByteArray := prog_5_method_8_code
def yX3_travel : MethodName := ⟨RX3, "travel", "(IIII)V"⟩
abbrev cX3_leave : ByteArray := prog_5_method_9_code
def yX3_leave : MethodName := ⟨RX3, "leave", "(LStarTrade$Shelf;II)V"⟩
def RX4 : String := "StarTrade$Port"
def TX4 : u_T := fun k => match k with
  | 0 => ("StarTrade$Port", "shelves", "[LStarTrade$Shelf;", true)
  | 1 => ("StarTrade$Port", "tax", "I", false)
  | 2 => ("StarTrade$Port", "chest", "I", false)
  | 3 => ("StarTrade$Port", "trade", "I", false)
  | _ => ("StarTrade$Port", "shut", "Z", false)
def tyX4 : Nat → FieldType := fun k => match k with
  | 0 => .array (.object "StarTrade$Shelf")
  | 1 => .int
  | 2 => .int
  | 3 => .int
  | _ => .boolean
abbrev wsX40 : List Cond := u_ws RX4 TX4 5
theorem nmX4 : ∀ a, a < 5 → ∀ b, b < 5 → a ≠ b → (TX4 a).2.1 ≠ (TX4 b).2.1 := by decide +kernel
theorem tyX4_ok : ∀ k, k < 5 → parseFieldDescriptor (TX4 k).2.2.1 = some (tyX4 k) := by decide +kernel
abbrev cX4_init : ByteArray := prog_6_method_1_code
def yX4_init : MethodName := ⟨RX4, "<init>", "(I)V"⟩
abbrev cX4_hungerOfAll : ByteArray := prog_6_method_2_code
def yX4_hungerOfAll : MethodName := ⟨RX4, "hungerOfAll", "()I"⟩
def RX5 : String := "StarTrade$RingSearch"
def TX5 : u_T := fun k => match k with
  | 0 => ("StarTrade$RingSearch", "world", "LStarTrade$World;", true)
  | 1 => ("StarTrade$RingSearch", "legGains", "[[I", true)
  | 2 => ("StarTrade$RingSearch", "path", "[I", true)
  | 3 => ("StarTrade$RingSearch", "best", "[I", true)
  | 4 => ("StarTrade$RingSearch", "bestCount", "I", false)
  | 5 => ("StarTrade$RingSearch", "bestGains", "I", false)
  | _ => ("StarTrade$RingSearch", "bestLengths", "I", false)
def tyX5 : Nat → FieldType := fun k => match k with
  | 0 => .object "StarTrade$World"
  | 1 => .array (.array .int)
  | 2 => .array .int
  | 3 => .array .int
  | 4 => .int
  | 5 => .int
  | _ => .int
abbrev wsX50 : List Cond := u_ws RX5 TX5 7
theorem nmX5 : ∀ a, a < 7 → ∀ b, b < 7 → a ≠ b → (TX5 a).2.1 ≠ (TX5 b).2.1 := by decide +kernel
theorem tyX5_ok : ∀ k, k < 7 → parseFieldDescriptor (TX5 k).2.2.1 = some (tyX5 k) := by decide +kernel
abbrev cX5_init : ByteArray := prog_7_method_1_code
def yX5_init : MethodName := ⟨RX5, "<init>", "(LStarTrade$World;)V"⟩
abbrev cX5_seek : ByteArray := prog_7_method_2_code
def yX5_seek : MethodName := ⟨RX5, "seek", "(I)V"⟩
abbrev cX5_fillLegGains : ByteArray := prog_7_method_3_code
def yX5_fillLegGains : MethodName := ⟨RX5, "fillLegGains", "(I)V"⟩
abbrev cX5_gainOfUnit : ByteArray := prog_7_method_4_code
def yX5_gainOfUnit : MethodName := ⟨RX5, "gainOfUnit", "(II)I"⟩
abbrev cX5_extend : ByteArray := prog_7_method_5_code
def yX5_extend : MethodName := ⟨RX5, "extend", "(III)V"⟩
abbrev cX5_isOnPath : ByteArray := prog_7_method_6_code
def yX5_isOnPath : MethodName := ⟨RX5, "isOnPath", "(II)Z"⟩
abbrev cX5_compare : ByteArray := prog_7_method_7_code
def yX5_compare : MethodName := ⟨RX5, "compare", "(III)V"⟩
def RX6 : String := "StarTrade$Shelf"
def TX6 : u_T := fun k => match k with
  | 0 => ("StarTrade$Shelf", "place", "I", true)
  | 1 => ("StarTrade$Shelf", "stock", "I", false)
  | 2 => ("StarTrade$Shelf", "make", "I", false)
  | 3 => ("StarTrade$Shelf", "use", "I", false)
  | 4 => ("StarTrade$Shelf", "base", "I", false)
  | 5 => ("StarTrade$Shelf", "ideal", "I", false)
  | _ => ("StarTrade$Shelf", "hunger", "I", false)
def tyX6 : Nat → FieldType := fun k => match k with
  | 0 => .int
  | 1 => .int
  | 2 => .int
  | 3 => .int
  | 4 => .int
  | 5 => .int
  | _ => .int
abbrev wsX60 : List Cond := u_ws RX6 TX6 7
theorem nmX6 : ∀ a, a < 7 → ∀ b, b < 7 → a ≠ b → (TX6 a).2.1 ≠ (TX6 b).2.1 := by decide +kernel
theorem tyX6_ok : ∀ k, k < 7 → parseFieldDescriptor (TX6 k).2.2.1 = some (tyX6 k) := by decide +kernel
abbrev cX6_init : ByteArray := prog_8_method_1_code
def yX6_init : MethodName := ⟨RX6, "<init>", "(I)V"⟩
abbrev cX6_priceAt : ByteArray := prog_8_method_2_code
def yX6_priceAt : MethodName := ⟨RX6, "priceAt", "(I)I"⟩
abbrev cX6_number : ByteArray := prog_8_method_3_code
def yX6_number : MethodName := ⟨RX6, "number", "(I)I"⟩
abbrev cX6_change : ByteArray := prog_8_method_4_code
def yX6_change : MethodName := ⟨RX6, "change", "(II)V"⟩
def RX7 : String := "StarTrade$Ship"
def TX7 : u_T := fun k => match k with
  | 0 => ("StarTrade$Ship", "port", "I", false)
  | 1 => ("StarTrade$Ship", "hold", "I", false)
  | 2 => ("StarTrade$Ship", "coins", "I", false)
  | _ => ("StarTrade$Ship", "cargo", "[I", true)
def tyX7 : Nat → FieldType := fun k => match k with
  | 0 => .int
  | 1 => .int
  | 2 => .int
  | _ => .array .int
abbrev wsX70 : List Cond := u_ws RX7 TX7 4
theorem nmX7 : ∀ a, a < 4 → ∀ b, b < 4 → a ≠ b → (TX7 a).2.1 ≠ (TX7 b).2.1 := by decide +kernel
theorem tyX7_ok : ∀ k, k < 4 → parseFieldDescriptor (TX7 k).2.2.1 = some (tyX7 k) := by decide +kernel
abbrev cX7_init : ByteArray := prog_9_method_1_code
def yX7_init : MethodName := ⟨RX7, "<init>", "()V"⟩
abbrev cX7_load : ByteArray := prog_9_method_2_code
def yX7_load : MethodName := ⟨RX7, "load", "()I"⟩
def RX8 : String := "StarTrade$Stop"
def TX8 : u_T := fun k => match k with
  | 0 => ("StarTrade$Stop", "port", "I", false)
  | 1 => ("StarTrade$Stop", "tick", "I", false)
  | 2 => ("StarTrade$Stop", "coins", "I", false)
  | 3 => ("StarTrade$Stop", "firstEmpty", "I", false)
  | 4 => ("StarTrade$Stop", "units", "[I", true)
  | 5 => ("StarTrade$Stop", "coinsLeft", "[I", true)
  | _ => ("StarTrade$Stop", "stockLeft", "[I", true)
def tyX8 : Nat → FieldType := fun k => match k with
  | 0 => .int
  | 1 => .int
  | 2 => .int
  | 3 => .int
  | 4 => .array .int
  | 5 => .array .int
  | _ => .array .int
abbrev wsX80 : List Cond := u_ws RX8 TX8 7
theorem nmX8 : ∀ a, a < 7 → ∀ b, b < 7 → a ≠ b → (TX8 a).2.1 ≠ (TX8 b).2.1 := by decide +kernel
theorem tyX8_ok : ∀ k, k < 7 → parseFieldDescriptor (TX8 k).2.2.1 = some (tyX8 k) := by decide +kernel
abbrev cX8_init : ByteArray := prog_10_method_1_code
def yX8_init : MethodName := ⟨RX8, "<init>", "()V"⟩
def RX9 : String := "StarTrade$World"
def TX9 : u_T := fun k => match k with
  | 0 => ("StarTrade$World", "ports", "[LStarTrade$Port;", true)
  | 1 => ("StarTrade$World", "ways", "[[I", true)
  | 2 => ("StarTrade$World", "calendar", "LStarTrade$Calendar;", true)
  | 3 => ("StarTrade$World", "portCount", "I", false)
  | 4 => ("StarTrade$World", "now", "I", false)
  | _ => ("StarTrade$World", "fuel", "I", false)
def tyX9 : Nat → FieldType := fun k => match k with
  | 0 => .array (.object "StarTrade$Port")
  | 1 => .array (.array .int)
  | 2 => .object "StarTrade$Calendar"
  | 3 => .int
  | 4 => .int
  | _ => .int
abbrev wsX90 : List Cond := u_ws RX9 TX9 6
theorem nmX9 : ∀ a, a < 6 → ∀ b, b < 6 → a ≠ b → (TX9 a).2.1 ≠ (TX9 b).2.1 := by decide +kernel
theorem tyX9_ok : ∀ k, k < 6 → parseFieldDescriptor (TX9 k).2.2.1 = some (tyX9 k) := by decide +kernel
abbrev cX9_init : ByteArray := prog_11_method_1_code
def yX9_init : MethodName := ⟨RX9, "<init>", "()V"⟩
abbrev cX9_shelf : ByteArray := prog_11_method_2_code
def yX9_shelf : MethodName := ⟨RX9, "shelf", "(II)LStarTrade$Shelf;"⟩
abbrev cX9_openLength : ByteArray := prog_11_method_3_code
def yX9_openLength : MethodName := ⟨RX9, "openLength", "(II)I"⟩
def RX10 : String := "StarTrade"
def TX10 : u_T := fun k => match k with
  | 0 => ("StarTrade", "world", "LStarTrade$World;", true)
  | 1 => ("StarTrade", "ships", "[LStarTrade$Ship;", true)
  | 2 => ("StarTrade", "shipCount", "I", false)
  | 3 => ("StarTrade", "made", "I", false)
  | 4 => ("StarTrade", "used", "I", false)
  | 5 => ("StarTrade", "brought", "I", false)
  | 6 => ("StarTrade", "stocked", "I", false)
  | 7 => ("StarTrade", "fuelPaid", "I", false)
  | 8 => ("StarTrade", "flow", "LStarTrade$Flow;", true)
  | 9 => ("StarTrade", "deal", "LStarTrade$Deal;", true)
  | 10 => ("StarTrade", "rings", "LStarTrade$RingSearch;", true)
  | _ => ("StarTrade", "plans", "LStarTrade$PlanSearch;", true)
def tyX10 : Nat → FieldType := fun k => match k with
  | 0 => .object "StarTrade$World"
  | 1 => .array (.object "StarTrade$Ship")
  | 2 => .int
  | 3 => .int
  | 4 => .int
  | 5 => .int
  | 6 => .int
  | 7 => .int
  | 8 => .object "StarTrade$Flow"
  | 9 => .object "StarTrade$Deal"
  | 10 => .object "StarTrade$RingSearch"
  | _ => .object "StarTrade$PlanSearch"
abbrev wsX100 : List Cond := u_ws RX10 TX10 12
theorem nmX10 : ∀ a, a < 12 → ∀ b, b < 12 → a ≠ b → (TX10 a).2.1 ≠ (TX10 b).2.1 := by decide +kernel
theorem tyX10_ok : ∀ k, k < 12 → parseFieldDescriptor (TX10 k).2.2.1 = some (tyX10 k) := by decide +kernel
abbrev cX10_init : ByteArray := prog_1_method_1_code
def yX10_init : MethodName := ⟨RX10, "<init>", "()V"⟩
abbrev cX10_port : ByteArray := prog_1_method_2_code
def yX10_port : MethodName := ⟨RX10, "port", "()I"⟩
abbrev cX10_set : ByteArray := prog_1_method_3_code
def yX10_set : MethodName := ⟨RX10, "set", "(IIII)I"⟩
abbrev cX10_about : ByteArray := prog_1_method_4_code
def yX10_about : MethodName := ⟨RX10, "about", "(III)I"⟩
abbrev cX10_tax : ByteArray := prog_1_method_5_code
def yX10_tax : MethodName := ⟨RX10, "tax", "(II)I"⟩
abbrev cX10_shut : ByteArray := prog_1_method_6_code
def yX10_shut : MethodName := ⟨RX10, "shut", "(IZ)I"⟩
abbrev cX10_way : ByteArray := prog_1_method_7_code
def yX10_way : MethodName := ⟨RX10, "way", "(III)I"⟩
abbrev cX10_ofPort : ByteArray := prog_1_method_8_code
def yX10_ofPort : MethodName := ⟨RX10, "ofPort", "(II)I"⟩
abbrev cX10_tick : ByteArray := prog_1_method_9_code
def yX10_tick : MethodName := ⟨RX10, "tick", "(I)I"⟩
abbrev cX10_event : ByteArray := prog_1_method_10_code
def yX10_event : MethodName := ⟨RX10, "event", "(IIII)I"⟩
abbrev cX10_ship : ByteArray := prog_1_method_11_code
def yX10_ship : MethodName := ⟨RX10, "ship", "(III)I"⟩
abbrev cX10_buy : ByteArray := prog_1_method_12_code
def yX10_buy : MethodName := ⟨RX10, "buy", "(III)I"⟩
abbrev cX10_sell : ByteArray := prog_1_method_13_code
def yX10_sell : MethodName := ⟨RX10, "sell", "(III)I"⟩
abbrev cX10_go : ByteArray := prog_1_method_14_code
def yX10_go : MethodName := ⟨RX10, "go", "(II)I"⟩
abbrev cX10_ofShip : ByteArray := prog_1_method_15_code
def yX10_ofShip : MethodName := ⟨RX10, "ofShip", "(II)I"⟩
abbrev cX10_fuel : ByteArray := prog_1_method_16_code
def yX10_fuel : MethodName := ⟨RX10, "fuel", "(I)I"⟩
abbrev cX10_told : ByteArray := prog_1_method_17_code
def yX10_told : MethodName := ⟨RX10, "told", "(I)I"⟩
abbrev cX10_ring : ByteArray := prog_1_method_18_code
def yX10_ring : MethodName := ⟨RX10, "ring", "(II)I"⟩
abbrev cX10_plan : ByteArray := prog_1_method_19_code
def yX10_plan : MethodName := ⟨RX10, "plan", "(II)I"⟩
abbrev cX10_planned : ByteArray := prog_1_method_20_code
def yX10_planned : MethodName := ⟨RX10, "planned", "(II)I"⟩
abbrev cX10_starves : ByteArray := prog_1_method_21_code
def yX10_starves : MethodName := ⟨RX10, "starves", "(III)I"⟩
abbrev cX10_within : ByteArray := prog_1_method_22_code
def yX10_within : MethodName := ⟨RX10, "within", "(III)Z"⟩
abbrev cX10_oneIf : ByteArray := prog_1_method_23_code
def yX10_oneIf : MethodName := ⟨RX10, "oneIf", "(Z)I"⟩
abbrev cX10_isPort : ByteArray := prog_1_method_24_code
def yX10_isPort : MethodName := ⟨RX10, "isPort", "(I)Z"⟩
abbrev cX10_isGood : ByteArray := prog_1_method_25_code
def yX10_isGood : MethodName := ⟨RX10, "isGood", "(I)Z"⟩
abbrev cX10_isShip : ByteArray := prog_1_method_26_code
def yX10_isShip : MethodName := ⟨RX10, "isShip", "(I)Z"⟩
abbrev cX10_refusalOfDeal : ByteArray := prog_1_method_27_code
def yX10_refusalOfDeal : MethodName := ⟨RX10, "refusalOfDeal", "(III)I"⟩
abbrev cX10_passTicks : ByteArray := prog_1_method_28_code
def yX10_passTicks : MethodName := ⟨RX10, "passTicks", "(I)V"⟩
abbrev cX10_passTicksOf : ByteArray := prog_1_method_29_code
def yX10_passTicksOf : MethodName := ⟨RX10, "passTicksOf", "(LStarTrade$Shelf;I)V"⟩
abbrev cX10_unitsInAll : ByteArray := prog_1_method_30_code
def yX10_unitsInAll : MethodName := ⟨RX10, "unitsInAll", "()I"⟩
abbrev cX10_coinsOfShips : ByteArray := prog_1_method_31_code
def yX10_coinsOfShips : MethodName := ⟨RX10, "coinsOfShips", "()I"⟩
def RX11 : String := "StarTradeModel"
def TX11 : u_T := fun k => match k with
  | 0 => ("StarTradeModel", "ports", "I", false)
  | 1 => ("StarTradeModel", "now", "I", false)
  | 2 => ("StarTradeModel", "fuel", "I", false)
  | 3 => ("StarTradeModel", "stock", "[I", true)
  | 4 => ("StarTradeModel", "make", "[I", true)
  | 5 => ("StarTradeModel", "use", "[I", true)
  | 6 => ("StarTradeModel", "base", "[I", true)
  | 7 => ("StarTradeModel", "ideal", "[I", true)
  | 8 => ("StarTradeModel", "hunger", "[I", true)
  | 9 => ("StarTradeModel", "tax", "[I", true)
  | 10 => ("StarTradeModel", "chest", "[I", true)
  | 11 => ("StarTradeModel", "trade", "[I", true)
  | 12 => ("StarTradeModel", "isShut", "[Z", true)
  | 13 => ("StarTradeModel", "ways", "[I", true)
  | 14 => ("StarTradeModel", "made", "I", false)
  | 15 => ("StarTradeModel", "used", "I", false)
  | 16 => ("StarTradeModel", "brought", "I", false)
  | 17 => ("StarTradeModel", "toldStock", "I", false)
  | 18 => ("StarTradeModel", "fuelPaid", "I", false)
  | 19 => ("StarTradeModel", "eventTick", "[I", true)
  | 20 => ("StarTradeModel", "eventPlace", "[I", true)
  | 21 => ("StarTradeModel", "eventBy", "[I", true)
  | 22 => ("StarTradeModel", "events", "I", false)
  | 23 => ("StarTradeModel", "at", "[I", true)
  | 24 => ("StarTradeModel", "hold", "[I", true)
  | 25 => ("StarTradeModel", "coins", "[I", true)
  | 26 => ("StarTradeModel", "cargo", "[I", true)
  | 27 => ("StarTradeModel", "ships", "I", false)
  | 28 => ("StarTradeModel", "row", "[I", true)
  | 29 => ("StarTradeModel", "best", "[I", true)
  | 30 => ("StarTradeModel", "bestMany", "I", false)
  | 31 => ("StarTradeModel", "bestGain", "I", false)
  | 32 => ("StarTradeModel", "bestLength", "I", false)
  | 33 => ("StarTradeModel", "then", "[I", true)
  | 34 => ("StarTradeModel", "thenNow", "I", false)
  | 35 => ("StarTradeModel", "thenCoins", "I", false)
  | 36 => ("StarTradeModel", "thenAt", "I", false)
  | 37 => ("StarTradeModel", "toPort", "[I", true)
  | 38 => ("StarTradeModel", "withGood", "[I", true)
  | 39 => ("StarTradeModel", "planPort", "[I", true)
  | 40 => ("StarTradeModel", "planGood", "[I", true)
  | _ => ("StarTradeModel", "planMany", "I", false)
def tyX11 : Nat → FieldType := fun k => match k with
  | 0 => .int
  | 1 => .int
  | 2 => .int
  | 3 => .array .int
  | 4 => .array .int
  | 5 => .array .int
  | 6 => .array .int
  | 7 => .array .int
  | 8 => .array .int
  | 9 => .array .int
  | 10 => .array .int
  | 11 => .array .int
  | 12 => .array .boolean
  | 13 => .array .int
  | 14 => .int
  | 15 => .int
  | 16 => .int
  | 17 => .int
  | 18 => .int
  | 19 => .array .int
  | 20 => .array .int
  | 21 => .array .int
  | 22 => .int
  | 23 => .array .int
  | 24 => .array .int
  | 25 => .array .int
  | 26 => .array .int
  | 27 => .int
  | 28 => .array .int
  | 29 => .array .int
  | 30 => .int
  | 31 => .int
  | 32 => .int
  | 33 => .array .int
  | 34 => .int
  | 35 => .int
  | 36 => .int
  | 37 => .array .int
  | 38 => .array .int
  | 39 => .array .int
  | 40 => .array .int
  | _ => .int
abbrev wsX110 : List Cond := u_ws RX11 TX11 42
theorem nmX11 : ∀ a, a < 42 → ∀ b, b < 42 → a ≠ b → (TX11 a).2.1 ≠ (TX11 b).2.1 := by decide +kernel
theorem tyX11_ok : ∀ k, k < 42 → parseFieldDescriptor (TX11 k).2.2.1 = some (tyX11 k) := by decide +kernel
abbrev cX11_init : ByteArray := prog_13_method_1_code
def yX11_init : MethodName := ⟨RX11, "<init>", "()V"⟩
abbrev cX11_in : ByteArray := prog_13_method_3_code
def yX11_in : MethodName := ⟨RX11, "in", "(JJJ)Z"⟩
abbrev cX11_isPort : ByteArray := prog_13_method_4_code
def yX11_isPort : MethodName := ⟨RX11, "isPort", "(I)Z"⟩
abbrev cX11_isGood : ByteArray := prog_13_method_5_code
def yX11_isGood : MethodName := ⟨RX11, "isGood", "(I)Z"⟩
abbrev cX11_port : ByteArray := prog_13_method_6_code
def yX11_port : MethodName := ⟨RX11, "port", "()I"⟩
abbrev cX11_of : ByteArray := prog_13_method_7_code
def yX11_of : MethodName := ⟨RX11, "of", "(II)I"⟩
abbrev cX11_set : ByteArray := prog_13_method_8_code
def yX11_set : MethodName := ⟨RX11, "set", "(IIII)I"⟩
abbrev cX11_priceWith : ByteArray := prog_13_method_9_code
def yX11_priceWith : MethodName := ⟨RX11, "priceWith", "(II)I"⟩
abbrev cX11_about : ByteArray := prog_13_method_10_code
def yX11_about : MethodName := ⟨RX11, "about", "(III)I"⟩
abbrev cX11_tax : ByteArray := prog_13_method_11_code
def yX11_tax : MethodName := ⟨RX11, "tax", "(II)I"⟩
abbrev cX11_shut : ByteArray := prog_13_method_12_code
def yX11_shut : MethodName := ⟨RX11, "shut", "(IZ)I"⟩
abbrev cX11_way : ByteArray := prog_13_method_13_code
def yX11_way : MethodName := ⟨RX11, "way", "(III)I"⟩
abbrev cX11_ofPort : ByteArray := prog_13_method_14_code
def yX11_ofPort : MethodName := ⟨RX11, "ofPort", "(II)I"⟩
abbrev cX11_held : ByteArray := prog_13_method_15_code
def yX11_held : MethodName := ⟨RX11, "held", "(I)I"⟩
abbrev cX11_tickOnce : ByteArray := prog_13_method_16_code
def yX11_tickOnce : MethodName := ⟨RX11, "tickOnce", "()V"⟩
abbrev cX11_tick : ByteArray := prog_13_method_17_code
def yX11_tick : MethodName := ⟨RX11, "tick", "(I)I"⟩
abbrev cX11_event : ByteArray := prog_13_method_18_code
def yX11_event : MethodName := ⟨RX11, "event", "(IIII)I"⟩
abbrev cX11_isShip : ByteArray := prog_13_method_19_code
def yX11_isShip : MethodName := ⟨RX11, "isShip", "(I)Z"⟩
abbrev cX11_load : ByteArray := prog_13_method_20_code
def yX11_load : MethodName := ⟨RX11, "load", "(I)I"⟩
abbrev cX11_ship : ByteArray := prog_13_method_21_code
def yX11_ship : MethodName := ⟨RX11, "ship", "(III)I"⟩
abbrev cX11_whyNot : ByteArray := prog_13_method_22_code
def yX11_whyNot : MethodName := ⟨RX11, "whyNot", "(III)I"⟩
abbrev cX11_buy : ByteArray := prog_13_method_23_code
def yX11_buy : MethodName := ⟨RX11, "buy", "(III)I"⟩
abbrev cX11_gainWith : ByteArray := prog_13_method_24_code
def yX11_gainWith : MethodName := ⟨RX11, "gainWith", "(II)I"⟩
abbrev cX11_sell : ByteArray := prog_13_method_25_code
def yX11_sell : MethodName := ⟨RX11, "sell", "(III)I"⟩
abbrev cX11_go : ByteArray := prog_13_method_26_code
def yX11_go : MethodName := ⟨RX11, "go", "(II)I"⟩
abbrev cX11_ofShip : ByteArray := prog_13_method_27_code
def yX11_ofShip : MethodName := ⟨RX11, "ofShip", "(II)I"⟩
abbrev cX11_fuel : ByteArray := prog_13_method_28_code
def yX11_fuel : MethodName := ⟨RX11, "fuel", "(I)I"⟩
abbrev cX11_told : ByteArray := prog_13_method_29_code
def yX11_told : MethodName := ⟨RX11, "told", "(I)I"⟩
abbrev cX11_legGain : ByteArray := prog_13_method_30_code
def yX11_legGain : MethodName := ⟨RX11, "legGain", "(III)I"⟩
abbrev cX11_isLess : ByteArray := prog_13_method_31_code
def yX11_isLess : MethodName := ⟨RX11, "isLess", "(I)Z"⟩
abbrev cX11_look : ByteArray := prog_13_method_32_code
def yX11_look : MethodName := ⟨RX11, "look", "(II)V"⟩
abbrev cX11_lookAll : ByteArray := prog_13_method_33_code
def yX11_lookAll : MethodName := ⟨RX11, "lookAll", "(II)V"⟩
abbrev cX11_ring : ByteArray := prog_13_method_34_code
def yX11_ring : MethodName := ⟨RX11, "ring", "(II)I"⟩
abbrev cX11_tickThen : ByteArray := prog_13_method_35_code
def yX11_tickThen : MethodName := ⟨RX11, "tickThen", "()V"⟩
abbrev cX11_trip : ByteArray := prog_13_method_36_code
def yX11_trip : MethodName := ⟨RX11, "trip", "(III)Z"⟩
abbrev cX11_plan : ByteArray := prog_13_method_37_code
def yX11_plan : MethodName := ⟨RX11, "plan", "(II)I"⟩
abbrev cX11_planned : ByteArray := prog_13_method_38_code
def yX11_planned : MethodName := ⟨RX11, "planned", "(II)I"⟩
abbrev cX11_starves : ByteArray := prog_13_method_39_code
def yX11_starves : MethodName := ⟨RX11, "starves", "(III)I"⟩
def RJ9 : String := "java/lang/Math"
def TJ9 : u_T := fun k => match k with
  | _ => ("", "", "", false)
def tyJ9 : Nat → FieldType := fun k => match k with
  | _ => .int
abbrev wsJ90 : List Cond := u_ws RJ9 TJ9 0
theorem nmJ9 : ∀ a, a < 0 → ∀ b, b < 0 → a ≠ b → (TJ9 a).2.1 ≠ (TJ9 b).2.1 := by decide +kernel
theorem tyJ9_ok : ∀ k, k < 0 → parseFieldDescriptor (TJ9 k).2.2.1 = some (tyJ9 k) := by decide +kernel
abbrev cJ9_max_7cf53 : ByteArray := prog_14_method_65_code
def yJ9_max_7cf53 : MethodName := ⟨RJ9, "max", "(II)I"⟩
abbrev cJ9_min_7cf53 : ByteArray := prog_14_method_69_code
def yJ9_min_7cf53 : MethodName := ⟨RJ9, "min", "(II)I"⟩
def RJ10 : String := "java/lang/System"
def TJ10 : u_T := fun k => match k with
  | _ => ("", "", "", false)
def tyJ10 : Nat → FieldType := fun k => match k with
  | _ => .int
abbrev wsJ100 : List Cond := u_ws RJ10 TJ10 0
theorem nmJ10 : ∀ a, a < 0 → ∀ b, b < 0 → a ≠ b → (TJ10 a).2.1 ≠ (TJ10 b).2.1 := by decide +kernel
theorem tyJ10_ok : ∀ k, k < 0 → parseFieldDescriptor (TJ10 k).2.2.1 = some (tyJ10 k) := by decide +kernel
def RL : String := "StarTradeLaw"
abbrev cL_law : ByteArray := code
def yL_law : MethodName := ⟨RL, "law", "([I)Z"⟩
abbrev vwCl : List vw_C := [(RX0, TX0, 4), (RX1, TX1, 5), (RX2, TX2, 6), (RX3, TX3, 15), (RX4, TX4, 5), (RX5, TX5, 7), (RX6, TX6, 7), (RX7, TX7, 4), (RX8, TX8, 7), (RX9, TX9, 6), (RX10, TX10, 12), (RX11, TX11, 42)]
